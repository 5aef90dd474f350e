section
-- ===== PART A: goes FIRST, ahead of the names: the tables' words, and 'selects' of the private methods out of them =====
/-- a private method of a class that the tables say can be made, by its rows of tables_1 -/
def lw_okq (q : MethodName × Nat) : Prop := (q.1.cls ≠ "java/lang/invoke/MethodHandle" ∧ q.1.cls ≠ "java/lang/invoke/VarHandle") ∧ Cond.instantiable q.1.cls q.2 ∈ tables_1 ∧ Cond.privateMethod q.1 ∈ tables_1 ∧ Cond.instanceMethod q.1 ∈ tables_1
theorem lw_p0 : lw_okq (⟨"TapeVault", "startAnew", "(I)V"⟩, 6) := ⟨⟨by decide +kernel, by decide +kernel⟩, List.mem_of_getElem? (i := 21) (by decide +kernel), List.mem_of_getElem? (i := 129) (by decide +kernel), List.mem_of_getElem? (i := 130) (by decide +kernel)⟩
theorem lw_p1 : lw_okq (⟨"TapeVault$Restored", "setNone", "(I)V"⟩, 8) := ⟨⟨by decide +kernel, by decide +kernel⟩, List.mem_of_getElem? (i := 91) (by decide +kernel), List.mem_of_getElem? (i := 195) (by decide +kernel), List.mem_of_getElem? (i := 196) (by decide +kernel)⟩
theorem lw_p2 : lw_okq (⟨"java/lang/Throwable", "fillInStackTrace", "(I)Ljava/lang/Throwable;"⟩, 6) := ⟨⟨by decide +kernel, by decide +kernel⟩, List.mem_of_getElem? (i := 265) (by decide +kernel), List.mem_of_getElem? (i := 263) (by decide +kernel), List.mem_of_getElem? (i := 264) (by decide +kernel)⟩
theorem lw_p3 : lw_okq (⟨"TapeVault$Tree", "takeOut", "(LTapeVault$Node;)V"⟩, 3) := ⟨⟨by decide +kernel, by decide +kernel⟩, List.mem_of_getElem? (i := 29) (by decide +kernel), List.mem_of_getElem? (i := 426) (by decide +kernel), List.mem_of_getElem? (i := 427) (by decide +kernel)⟩
theorem lw_p4 : lw_okq (⟨"TapeVault", "latestBelow", "(I)LTapeVault$Dump;"⟩, 6) := ⟨⟨by decide +kernel, by decide +kernel⟩, List.mem_of_getElem? (i := 21) (by decide +kernel), List.mem_of_getElem? (i := 453) (by decide +kernel), List.mem_of_getElem? (i := 454) (by decide +kernel)⟩
theorem lw_p5 : lw_okq (⟨"TapeVault$Writer", "writeHead", "(LTapeVault$Dump;)V"⟩, 2) := ⟨⟨by decide +kernel, by decide +kernel⟩, List.mem_of_getElem? (i := 78) (by decide +kernel), List.mem_of_getElem? (i := 536) (by decide +kernel), List.mem_of_getElem? (i := 537) (by decide +kernel)⟩
theorem lw_p6 : lw_okq (⟨"TapeVault$Volumes", "appendPosition", "()V"⟩, 5) := ⟨⟨by decide +kernel, by decide +kernel⟩, List.mem_of_getElem? (i := 52) (by decide +kernel), List.mem_of_getElem? (i := 544) (by decide +kernel), List.mem_of_getElem? (i := 545) (by decide +kernel)⟩
theorem lw_p7 : lw_okq (⟨"TapeVault$Writer", "writeMap", "()V"⟩, 2) := ⟨⟨by decide +kernel, by decide +kernel⟩, List.mem_of_getElem? (i := 78) (by decide +kernel), List.mem_of_getElem? (i := 577) (by decide +kernel), List.mem_of_getElem? (i := 578) (by decide +kernel)⟩
theorem lw_p8 : lw_okq (⟨"TapeVault$Writer", "writeIndex", "(LTapeVault$Dump;)V"⟩, 2) := ⟨⟨by decide +kernel, by decide +kernel⟩, List.mem_of_getElem? (i := 78) (by decide +kernel), List.mem_of_getElem? (i := 582) (by decide +kernel), List.mem_of_getElem? (i := 583) (by decide +kernel)⟩
theorem lw_p9 : lw_okq (⟨"TapeVault$Writer", "writeFacts", "(LTapeVault$Node;)V"⟩, 2) := ⟨⟨by decide +kernel, by decide +kernel⟩, List.mem_of_getElem? (i := 78) (by decide +kernel), List.mem_of_getElem? (i := 590) (by decide +kernel), List.mem_of_getElem? (i := 591) (by decide +kernel)⟩
theorem lw_p10 : lw_okq (⟨"TapeVault$Writer", "writeOctets", "(LTapeVault$Node;)V"⟩, 2) := ⟨⟨by decide +kernel, by decide +kernel⟩, List.mem_of_getElem? (i := 78) (by decide +kernel), List.mem_of_getElem? (i := 598) (by decide +kernel), List.mem_of_getElem? (i := 599) (by decide +kernel)⟩
theorem lw_p11 : lw_okq (⟨"TapeVault$Writer", "writeEntries", "(LTapeVault$Node;)V"⟩, 2) := ⟨⟨by decide +kernel, by decide +kernel⟩, List.mem_of_getElem? (i := 78) (by decide +kernel), List.mem_of_getElem? (i := 606) (by decide +kernel), List.mem_of_getElem? (i := 607) (by decide +kernel)⟩
theorem lw_p12 : lw_okq (⟨"TapeVault$Restored", "isReadable", "(LTapeVault$Dump;)Z"⟩, 8) := ⟨⟨by decide +kernel, by decide +kernel⟩, List.mem_of_getElem? (i := 91) (by decide +kernel), List.mem_of_getElem? (i := 656) (by decide +kernel), List.mem_of_getElem? (i := 657) (by decide +kernel)⟩
theorem lw_p13 : lw_okq (⟨"TapeVault$Volumes", "positionOfBlock", "(I)I"⟩, 5) := ⟨⟨by decide +kernel, by decide +kernel⟩, List.mem_of_getElem? (i := 52) (by decide +kernel), List.mem_of_getElem? (i := 665) (by decide +kernel), List.mem_of_getElem? (i := 666) (by decide +kernel)⟩
theorem lw_p14 : lw_okq (⟨"TapeVault$Restored", "dropUnmapped", "(LTapeVault$Dump;)V"⟩, 8) := ⟨⟨by decide +kernel, by decide +kernel⟩, List.mem_of_getElem? (i := 91) (by decide +kernel), List.mem_of_getElem? (i := 670) (by decide +kernel), List.mem_of_getElem? (i := 671) (by decide +kernel)⟩
theorem lw_p15 : lw_okq (⟨"TapeVault$Restored", "takeChanged", "(LTapeVault$Dump;)V"⟩, 8) := ⟨⟨by decide +kernel, by decide +kernel⟩, List.mem_of_getElem? (i := 91) (by decide +kernel), List.mem_of_getElem? (i := 684) (by decide +kernel), List.mem_of_getElem? (i := 685) (by decide +kernel)⟩
def lw_privs_1 : List (MethodName × Nat) := [(⟨"TapeVault", "startAnew", "(I)V"⟩, 6), (⟨"TapeVault$Restored", "setNone", "(I)V"⟩, 8), (⟨"java/lang/Throwable", "fillInStackTrace", "(I)Ljava/lang/Throwable;"⟩, 6), (⟨"TapeVault$Tree", "takeOut", "(LTapeVault$Node;)V"⟩, 3), (⟨"TapeVault", "latestBelow", "(I)LTapeVault$Dump;"⟩, 6), (⟨"TapeVault$Writer", "writeHead", "(LTapeVault$Dump;)V"⟩, 2), (⟨"TapeVault$Volumes", "appendPosition", "()V"⟩, 5), (⟨"TapeVault$Writer", "writeMap", "()V"⟩, 2), (⟨"TapeVault$Writer", "writeIndex", "(LTapeVault$Dump;)V"⟩, 2), (⟨"TapeVault$Writer", "writeFacts", "(LTapeVault$Node;)V"⟩, 2), (⟨"TapeVault$Writer", "writeOctets", "(LTapeVault$Node;)V"⟩, 2), (⟨"TapeVault$Writer", "writeEntries", "(LTapeVault$Node;)V"⟩, 2), (⟨"TapeVault$Restored", "isReadable", "(LTapeVault$Dump;)Z"⟩, 8), (⟨"TapeVault$Volumes", "positionOfBlock", "(I)I"⟩, 5), (⟨"TapeVault$Restored", "dropUnmapped", "(LTapeVault$Dump;)V"⟩, 8), (⟨"TapeVault$Restored", "takeChanged", "(LTapeVault$Dump;)V"⟩, 8)]
theorem lw_r1 : ∀ q ∈ lw_privs_1, lw_okq q := List.forall_mem_cons.mpr ⟨lw_p0, List.forall_mem_cons.mpr ⟨lw_p1, List.forall_mem_cons.mpr ⟨lw_p2, List.forall_mem_cons.mpr ⟨lw_p3, List.forall_mem_cons.mpr ⟨lw_p4, List.forall_mem_cons.mpr ⟨lw_p5, List.forall_mem_cons.mpr ⟨lw_p6, List.forall_mem_cons.mpr ⟨lw_p7, List.forall_mem_cons.mpr ⟨lw_p8, List.forall_mem_cons.mpr ⟨lw_p9, List.forall_mem_cons.mpr ⟨lw_p10, List.forall_mem_cons.mpr ⟨lw_p11, List.forall_mem_cons.mpr ⟨lw_p12, List.forall_mem_cons.mpr ⟨lw_p13, List.forall_mem_cons.mpr ⟨lw_p14, List.forall_mem_cons.mpr ⟨lw_p15, fun _ h => absurd h List.not_mem_nil⟩⟩⟩⟩⟩⟩⟩⟩⟩⟩⟩⟩⟩⟩⟩⟩
theorem lw_p16 : lw_okq (⟨"TapeVault$Restored", "takeNode", "(III)V"⟩, 8) := ⟨⟨by decide +kernel, by decide +kernel⟩, List.mem_of_getElem? (i := 91) (by decide +kernel), List.mem_of_getElem? (i := 692) (by decide +kernel), List.mem_of_getElem? (i := 693) (by decide +kernel)⟩
theorem lw_p17 : lw_okq (⟨"TapeVault$Restored", "wholeBlocks", "(LTapeVault$Dump;)I"⟩, 8) := ⟨⟨by decide +kernel, by decide +kernel⟩, List.mem_of_getElem? (i := 91) (by decide +kernel), List.mem_of_getElem? (i := 697) (by decide +kernel), List.mem_of_getElem? (i := 698) (by decide +kernel)⟩
theorem lw_p18 : lw_okq (⟨"TapeVault$Restored", "countLost", "()I"⟩, 8) := ⟨⟨by decide +kernel, by decide +kernel⟩, List.mem_of_getElem? (i := 91) (by decide +kernel), List.mem_of_getElem? (i := 701) (by decide +kernel), List.mem_of_getElem? (i := 702) (by decide +kernel)⟩
theorem lw_p19 : lw_okq (⟨"TapeVault", "viewOf", "(Z)LTapeVault$View;"⟩, 6) := ⟨⟨by decide +kernel, by decide +kernel⟩, List.mem_of_getElem? (i := 21) (by decide +kernel), List.mem_of_getElem? (i := 712) (by decide +kernel), List.mem_of_getElem? (i := 713) (by decide +kernel)⟩
theorem lw_p20 : lw_okq (⟨"TapeVault$Restored", "wasRead", "(II)Z"⟩, 8) := ⟨⟨by decide +kernel, by decide +kernel⟩, List.mem_of_getElem? (i := 91) (by decide +kernel), List.mem_of_getElem? (i := 749) (by decide +kernel), List.mem_of_getElem? (i := 750) (by decide +kernel)⟩
theorem lw_p21 : lw_okq (⟨"TapeVaultModel", "fails", "(ZI)Z"⟩, 48) := ⟨⟨by decide +kernel, by decide +kernel⟩, List.mem_of_getElem? (i := 788) (by decide +kernel), List.mem_of_getElem? (i := 806) (by decide +kernel), List.mem_of_getElem? (i := 807) (by decide +kernel)⟩
theorem lw_p22 : lw_okq (⟨"TapeVaultModel", "is", "(II)Z"⟩, 48) := ⟨⟨by decide +kernel, by decide +kernel⟩, List.mem_of_getElem? (i := 788) (by decide +kernel), List.mem_of_getElem? (i := 964) (by decide +kernel), List.mem_of_getElem? (i := 965) (by decide +kernel)⟩
theorem lw_p23 : lw_okq (⟨"TapeVaultModel", "named", "(II)I"⟩, 48) := ⟨⟨by decide +kernel, by decide +kernel⟩, List.mem_of_getElem? (i := 788) (by decide +kernel), List.mem_of_getElem? (i := 968) (by decide +kernel), List.mem_of_getElem? (i := 969) (by decide +kernel)⟩
theorem lw_p24 : lw_okq (⟨"TapeVaultModel", "entries", "(I)I"⟩, 48) := ⟨⟨by decide +kernel, by decide +kernel⟩, List.mem_of_getElem? (i := 788) (by decide +kernel), List.mem_of_getElem? (i := 989) (by decide +kernel), List.mem_of_getElem? (i := 990) (by decide +kernel)⟩
theorem lw_p25 : lw_okq (⟨"TapeVaultModel", "changed", "(II)Z"⟩, 48) := ⟨⟨by decide +kernel, by decide +kernel⟩, List.mem_of_getElem? (i := 788) (by decide +kernel), List.mem_of_getElem? (i := 997) (by decide +kernel), List.mem_of_getElem? (i := 998) (by decide +kernel)⟩
theorem lw_p26 : lw_okq (⟨"TapeVaultModel", "record", "(I)V"⟩, 48) := ⟨⟨by decide +kernel, by decide +kernel⟩, List.mem_of_getElem? (i := 788) (by decide +kernel), List.mem_of_getElem? (i := 1007) (by decide +kernel), List.mem_of_getElem? (i := 1008) (by decide +kernel)⟩
theorem lw_p27 : lw_okq (⟨"TapeVaultModel", "isWritten", "(II)Z"⟩, 48) := ⟨⟨by decide +kernel, by decide +kernel⟩, List.mem_of_getElem? (i := 788) (by decide +kernel), List.mem_of_getElem? (i := 1015) (by decide +kernel), List.mem_of_getElem? (i := 1016) (by decide +kernel)⟩
theorem lw_p28 : lw_okq (⟨"TapeVaultModel", "place", "(II)I"⟩, 48) := ⟨⟨by decide +kernel, by decide +kernel⟩, List.mem_of_getElem? (i := 788) (by decide +kernel), List.mem_of_getElem? (i := 1019) (by decide +kernel), List.mem_of_getElem? (i := 1020) (by decide +kernel)⟩
theorem lw_p29 : lw_okq (⟨"TapeVaultModel", "put", "(II)V"⟩, 48) := ⟨⟨by decide +kernel, by decide +kernel⟩, List.mem_of_getElem? (i := 788) (by decide +kernel), List.mem_of_getElem? (i := 1027) (by decide +kernel), List.mem_of_getElem? (i := 1028) (by decide +kernel)⟩
theorem lw_p30 : lw_okq (⟨"TapeVaultModel", "make", "(I)V"⟩, 48) := ⟨⟨by decide +kernel, by decide +kernel⟩, List.mem_of_getElem? (i := 788) (by decide +kernel), List.mem_of_getElem? (i := 1031) (by decide +kernel), List.mem_of_getElem? (i := 1032) (by decide +kernel)⟩
theorem lw_p31 : lw_okq (⟨"TapeVaultModel", "many", "(I)I"⟩, 48) := ⟨⟨by decide +kernel, by decide +kernel⟩, List.mem_of_getElem? (i := 788) (by decide +kernel), List.mem_of_getElem? (i := 1035) (by decide +kernel), List.mem_of_getElem? (i := 1036) (by decide +kernel)⟩
def lw_privs_2 : List (MethodName × Nat) := [(⟨"TapeVault$Restored", "takeNode", "(III)V"⟩, 8), (⟨"TapeVault$Restored", "wholeBlocks", "(LTapeVault$Dump;)I"⟩, 8), (⟨"TapeVault$Restored", "countLost", "()I"⟩, 8), (⟨"TapeVault", "viewOf", "(Z)LTapeVault$View;"⟩, 6), (⟨"TapeVault$Restored", "wasRead", "(II)Z"⟩, 8), (⟨"TapeVaultModel", "fails", "(ZI)Z"⟩, 48), (⟨"TapeVaultModel", "is", "(II)Z"⟩, 48), (⟨"TapeVaultModel", "named", "(II)I"⟩, 48), (⟨"TapeVaultModel", "entries", "(I)I"⟩, 48), (⟨"TapeVaultModel", "changed", "(II)Z"⟩, 48), (⟨"TapeVaultModel", "record", "(I)V"⟩, 48), (⟨"TapeVaultModel", "isWritten", "(II)Z"⟩, 48), (⟨"TapeVaultModel", "place", "(II)I"⟩, 48), (⟨"TapeVaultModel", "put", "(II)V"⟩, 48), (⟨"TapeVaultModel", "make", "(I)V"⟩, 48), (⟨"TapeVaultModel", "many", "(I)I"⟩, 48)]
theorem lw_r2 : ∀ q ∈ lw_privs_2, lw_okq q := List.forall_mem_cons.mpr ⟨lw_p16, List.forall_mem_cons.mpr ⟨lw_p17, List.forall_mem_cons.mpr ⟨lw_p18, List.forall_mem_cons.mpr ⟨lw_p19, List.forall_mem_cons.mpr ⟨lw_p20, List.forall_mem_cons.mpr ⟨lw_p21, List.forall_mem_cons.mpr ⟨lw_p22, List.forall_mem_cons.mpr ⟨lw_p23, List.forall_mem_cons.mpr ⟨lw_p24, List.forall_mem_cons.mpr ⟨lw_p25, List.forall_mem_cons.mpr ⟨lw_p26, List.forall_mem_cons.mpr ⟨lw_p27, List.forall_mem_cons.mpr ⟨lw_p28, List.forall_mem_cons.mpr ⟨lw_p29, List.forall_mem_cons.mpr ⟨lw_p30, List.forall_mem_cons.mpr ⟨lw_p31, fun _ h => absurd h List.not_mem_nil⟩⟩⟩⟩⟩⟩⟩⟩⟩⟩⟩⟩⟩⟩⟩⟩
theorem lw_p32 : lw_okq (⟨"TapeVaultModel", "indexes", "(I)I"⟩, 48) := ⟨⟨by decide +kernel, by decide +kernel⟩, List.mem_of_getElem? (i := 788) (by decide +kernel), List.mem_of_getElem? (i := 1039) (by decide +kernel), List.mem_of_getElem? (i := 1040) (by decide +kernel)⟩
theorem lw_p33 : lw_okq (⟨"TapeVaultModel", "contents", "(I)I"⟩, 48) := ⟨⟨by decide +kernel, by decide +kernel⟩, List.mem_of_getElem? (i := 788) (by decide +kernel), List.mem_of_getElem? (i := 1044) (by decide +kernel), List.mem_of_getElem? (i := 1045) (by decide +kernel)⟩
theorem lw_p34 : lw_okq (⟨"TapeVaultModel", "node", "(II)V"⟩, 48) := ⟨⟨by decide +kernel, by decide +kernel⟩, List.mem_of_getElem? (i := 788) (by decide +kernel), List.mem_of_getElem? (i := 1048) (by decide +kernel), List.mem_of_getElem? (i := 1049) (by decide +kernel)⟩
theorem lw_p35 : lw_okq (⟨"TapeVaultModel", "head", "(I)I"⟩, 48) := ⟨⟨by decide +kernel, by decide +kernel⟩, List.mem_of_getElem? (i := 788) (by decide +kernel), List.mem_of_getElem? (i := 1056) (by decide +kernel), List.mem_of_getElem? (i := 1057) (by decide +kernel)⟩
theorem lw_p36 : lw_okq (⟨"TapeVaultModel", "one", "(I)V"⟩, 48) := ⟨⟨by decide +kernel, by decide +kernel⟩, List.mem_of_getElem? (i := 788) (by decide +kernel), List.mem_of_getElem? (i := 1060) (by decide +kernel), List.mem_of_getElem? (i := 1061) (by decide +kernel)⟩
theorem lw_p37 : lw_okq (⟨"TapeVaultModel", "back", "(II)V"⟩, 48) := ⟨⟨by decide +kernel, by decide +kernel⟩, List.mem_of_getElem? (i := 788) (by decide +kernel), List.mem_of_getElem? (i := 1064) (by decide +kernel), List.mem_of_getElem? (i := 1065) (by decide +kernel)⟩
def lw_privs_3 : List (MethodName × Nat) := [(⟨"TapeVaultModel", "indexes", "(I)I"⟩, 48), (⟨"TapeVaultModel", "contents", "(I)I"⟩, 48), (⟨"TapeVaultModel", "node", "(II)V"⟩, 48), (⟨"TapeVaultModel", "head", "(I)I"⟩, 48), (⟨"TapeVaultModel", "one", "(I)V"⟩, 48), (⟨"TapeVaultModel", "back", "(II)V"⟩, 48)]
theorem lw_r3 : ∀ q ∈ lw_privs_3, lw_okq q := List.forall_mem_cons.mpr ⟨lw_p32, List.forall_mem_cons.mpr ⟨lw_p33, List.forall_mem_cons.mpr ⟨lw_p34, List.forall_mem_cons.mpr ⟨lw_p35, List.forall_mem_cons.mpr ⟨lw_p36, List.forall_mem_cons.mpr ⟨lw_p37, fun _ h => absurd h List.not_mem_nil⟩⟩⟩⟩⟩⟩
def lw_privs : List (MethodName × Nat) := lw_privs_1 ++ (lw_privs_2 ++ (lw_privs_3))
def lw_tbl : List Cond := k2_sels lw_privs ++ tables_1
theorem lw_privs_ok : ∀ q ∈ lw_privs, lw_okq q := by
  show ∀ q ∈ lw_privs_1 ++ (lw_privs_2 ++ (lw_privs_3)), lw_okq q
  exact List.forall_mem_append.mpr ⟨lw_r1, List.forall_mem_append.mpr ⟨lw_r2, lw_r3⟩⟩
-- ===== end of PART A; then your names; then what follows =====
end
section
/-! ===== BEGIN words of one list among another's, by their places ===== -/
theorem goodIn_r {big : List Cond} (ws : List Cond) (ps : List Nat) (hp : ws = ps.filterMap (fun i => big[i]?)) (h : ws.all goodWord = true) : GoodIn big ws := by
  intro w hw
  have h1 := List.all_eq_true.mp h w hw
  rw [hp] at hw
  obtain ⟨i, -, hi⟩ := List.mem_filterMap.mp hw
  have hm : w ∈ big := by first | exact List.mem_of_getElem? hi | exact List.getElem?_mem hi
  exact ⟨hm, good_of_word h1⟩
theorem goodIn_app {big a b : List Cond} (ha : GoodIn big a) (hb : GoodIn big b) : GoodIn big (a ++ b) := fun w h => (List.mem_append.mp h).elim (ha w) (hb w)
theorem goodIn_ca {big a b : List Cond} {c : Cond} (ha : GoodIn big (c :: a)) (hb : GoodIn big b) : GoodIn big (c :: (a ++ b)) := fun w h => (List.mem_cons.mp h).elim (fun e => ha w (List.mem_cons.mpr (Or.inl e))) (fun h => (List.mem_append.mp h).elim (fun h => ha w (List.mem_cons.mpr (Or.inr h))) (hb w))
theorem goodIn_sub {big ws : List Cond} (hm : ∀ w ∈ ws, w ∈ big) (h : ws.all goodWord = true) : GoodIn big ws := fun w hw => ⟨hm w hw, good_of_word (List.all_eq_true.mp h w hw)⟩
/-! ===== END ===== -/

/-! ===== BEGIN exceptions that leave a method, and their catching by the caller (launches without stack traces) ===== -/
section VXA
/-! The laws vx_back, vx_callV, vx_callS, vx_callSW, vx_throw0, vx_throwS follow proofs of the library, with one case more: JvmDerived/Free/Laws.lean (Back.of_free), Shelf42/LK1.lean (callV, callS), Shelf/KitTraced.lean (throwNew0V, throwNewS). -/
/-- where a method has thrown q: the class by its name, the cell, what was written, the world -/
def vx_T (XC : String → State → State → Prop) (st : State) (q : Addr) (t : State) (mc ms : Nat) (free : Addr → Prop) : Prop :=
  ∃ (E : String) (ce : Cell) (L : List Loc), XC E st t ∧ t.heap[q]? = some ce ∧ ce.vm = .none ∧ st.vm.findClass E = some ce.cls ∧ st.WarmedH t.vm ∧ st.sameButNew ({ t with vm := st.vm } : State) L mc ms ∧ ∀ z ∈ L, free z.base
def vx_Q (Qc : Array Value → State → Outcome → State → Prop) (XC : String → State → State → Prop) (mc ms : Nat) (free : Addr → Prop) : Array Value → State → Outcome → State → Prop := fun a st o t =>
  (Qc a st o t ∧ ∃ L, FrameEnd st o t L mc ms ∧ ∀ q ∈ L, free q.base) ∨ ∃ q, o = .threw q ∧ vx_T XC st q t mc ms free
/-- a callee that returns or throws -/
def vx_Met (l : Launch) (y : MethodName) (ws : List Cond) (rm : Room) (Pc : Array Value → State → Prop) (Qc : Array Value → State → Outcome → State → Prop) (XC : String → State → State → Prop) (mc ms : Nat) (free : Addr → Prop) : Prop :=
  MetFree l y (headSpec ws rm) Pc (fun _ _ _ _ _ => True) (vx_Q Qc XC mc ms free)
def vx_Post (XC : String → State → State → Prop) (mc ms : Nat) (free : Addr → Prop) : Pt → Array Value → Addr → Pt → Prop := fun A a q B =>
  ∃ (g : JFrame) (mk : MethodId) (t : State) (L : List Loc) (E : String) (ce : Cell), B.U.heap = t.heap ∧ B.U.vm = t.vm ∧ XC E (A.U.calling g mk a) t ∧ t.heap[q]? = some ce ∧ ce.vm = .none ∧ A.U.vm.findClass E = some ce.cls ∧ B.locs = A.locs ++ L ∧ (∀ z ∈ L, free z.base) ∧ B.cells = A.cells + mc ∧ B.slots = A.slots + ms
def vx_Back (l : Launch) (R : Room) (p : Program) (e : Env) (below : List Frame) (s : State) (sargs : Array Value) (y : MethodName) (len W9 : Nat)
    (Pre : Pt → Array Value → Prop) (Post : Pt → Array Value → Option Value → Pt → Prop) (PostX : Pt → Array Value → Addr → Pt → Prop) : Prop :=
  ∀ (m : MethodId) (meth : Method) (c : Code) (A : Pt) (g : JFrame) (ig : Instr) (mk : MethodId) (a : Array Value),
    Stand p l e R s m sargs below meth c A.U A.locs A.cells A.slots → g.method = m → g.locals.size = c.maxLocals → decode c.code g.pc = .ok (ig, len) →
    2 * g.monitorRoom + (g.stack.map fun v => v.category).sum ≤ W9 → A.U.methodNamed? y = some mk → Pre A a →
    (∃ (v : Option Value) (B : Pt), Stand p l e R s m sargs below meth c B.U B.locs B.cells B.slots ∧ Post A a v B ∧
      Steps p.tables e below (doInvoke e (A.U.setTop g) [] mk a).1 (B.U.setTop { g with pc := g.pc + len, stack := v.toList ++ g.stack })) ∨
    (∃ (q : Addr) (B : Pt), Stand p l e R s m sargs below meth c B.U B.locs B.cells B.slots ∧ PostX A a q B ∧
      Steps p.tables e below (doInvoke e (A.U.setTop g) [] mk a).1 ((B.U.setTop g).pushFrame (.throwing q)))
section Payer
variable {l : Launch} {R : Room} {p : Program} {e : Env} {below : List Frame} {s : State} {sargs : Array Value} {y : MethodName} {len W9 : Nat}
theorem vx_back {ws : List Cond} {rm : Room} {Pc : Array Value → State → Prop} {Qc : Array Value → State → Outcome → State → Prop} {XC : String → State → State → Prop} {mc ms : Nat} {free : Addr → Prop} {bytes : ByteArray} {maxL : Nat} {ret : Option FieldType}
    (hM : vx_Met l y ws rm Pc Qc XC mc ms free) (hblind : FrameBlind Pc) (hrc : rm.cells = mc) (hrs : rm.slots = ms)
    (hframes : rm.frames + 1 ≤ R.frames) (hlocals : W9 + (maxL + 11) + rm.locals ≤ R.locals)
    (hws : ∀ w ∈ ws, ∀ a' U, s.WarmedH U.vm → w.before a' U = true) (hcode : Cond.code y bytes maxL ret ∈ ws) (hinit : ∀ a' U, s.WarmedH U.vm → (Cond.initialized y.cls).before a' U = true) :
    vx_Back l R p e below s sargs y len W9 (PreOf R mc ms Pc) (PostOf Qc mc ms free) (vx_Post XC mc ms free) := by
  intro m meth c A g ig mk a X hg hsize hdg hW hn hp
  have h1 : (headSpec ws rm).pre.before a A.U = true := atoms_intro fun w hw => hws w hw _ _ X.warmed
  have h2 : (Cond.code y bytes maxL ret).before a A.U = true := hws _ hcode _ _ X.warmed
  have h3 : (Cond.initialized y.cls).before a A.U = true := hinit _ _ X.warmed
  have h4 : A.cells + (headSpec ws rm).room.cells ≤ R.cells := by rw [show (headSpec ws rm).room.cells = mc from hrc]; exact hp.1
  have h5 : A.slots + (headSpec ws rm).room.slots ≤ R.slots := by rw [show (headSpec ws rm).room.slots = ms from hrs]; exact hp.2.1
  have hPc : Pc a (A.U.calling g mk a) := hblind _ _ _ _ hp.2.2
  obtain ⟨U, Ls, c0, s0⟩ := A
  dsimp only [Pt.U, Pt.locs, Pt.cells, Pt.slots] at h1 h2 h3 h4 h5 X hn hPc ⊢
  obtain ⟨methY, cY, hmY, hcY, -, hlY, -, -, -, -⟩ := Cond.code_spec hn h2
  obtain ⟨kY, hkY, -⟩ := className_of_methodNamed hn
  have hinitY : kY.init = .initialized := Cond.initialized_spec (findClass_of_methodNamed hn) hkY h3
  have h : At U g.method c below := by rw [hg]; exact X.here
  have hlocals9 : W9 + (maxL + 11) + (headSpec ws rm).room.locals ≤ R.locals := hlocals
  have happ : (headSpec ws rm).appliesLoose y e.platform (U.calling g mk a) = true :=
    Spec.appliesLoose_calling (g := g) h hdg hn hkY hinitY
      (X.room_calling (g := g) (R' := (headSpec ws rm).room) hsize hmY hcY hframes (by rw [hlY]; omega) h4 h5) h1
  obtain ⟨mid, hmid⟩ := h.above
  have hfr : (U.setTop g).frames = (.java g :: mid) ++ below := by rw [State.frames_setTop' g h.top, hmid]; rfl
  obtain ⟨o, s₂, hsteps, -, hend, hq⟩ := Steps.callFree hM p X.admits X.cas X.clock (acts := []) hfr happ hPc trivial
  have hq' : vx_Q Qc XC mc ms free a (U.calling g mk a) o s₂ := hq
  rw [State.frames_setTop' g h.top] at hend
  obtain ⟨g₀, hg0⟩ := Option.isSome_iff_exists.mp h.top
  obtain ⟨r, hr⟩ := State.topJava?_eq_some.mp hg0
  have hr' : (({ U with heap := s₂.heap, slotsUsed := s₂.slotsUsed } : State).setVm s₂.vm).frames = .java g₀ :: r := hr
  rcases hq' with ⟨hqc, L, hfe, hL⟩ | ⟨q, rfl, E, ce, L, hx, hce, hcv, hcl, hW₂, hsm, hL⟩
  · obtain ⟨⟨v, rfl⟩, hW₂, e2, q2, q3, q4, q5, q6⟩ := id hfe
    have e3 : s₂ = ({ (U.calling g mk a).setFrames s₂.frames with heap := s₂.heap, slotsUsed := s₂.slotsUsed } : State).setVm s₂.vm := by
      have : s₂ = ({ s₂ with vm := (U.calling g mk a).vm } : State).setVm s₂.vm := rfl
      rw [e2] at this
      exact this
    obtain ⟨c₂, i₂, len₂, hc₂, hd₂, hf₂⟩ := hend
    have hW' : U.WarmedH s₂.vm := hW₂
    have hcc : c₂ = c := by
      have h1 : s₂.code? g.method = U.code? g.method := by
        rw [State.code?_eq, State.code?_eq, hW'.alike.method?]
      exact Option.some.inj (hc₂.symm.trans (h1.trans h.code))
    subst hcc
    have hlen : len₂ = len := by rw [hdg] at hd₂; cases hd₂; rfl
    subst hlen
    have hs₂ : s₂ = (({ U with heap := s₂.heap, slotsUsed := s₂.slotsUsed } : State).setVm s₂.vm).setTop { g with pc := g.pc + len₂, stack := v.toList ++ g.stack } := by
      refine e3.trans ?_
      rw [hf₂, State.calling_eq h.top, State.setFrames_setFrames, State.setTop_of_frames _ hr', hr]
      rfl
    have hsame : U.sameButNew ({ U with heap := s₂.heap, slotsUsed := s₂.slotsUsed } : State) L mc ms := by
      refine ⟨?_, q2, q3, q4, q5, q6⟩
      obtain ⟨t, ht, -⟩ := State.frames_cons hr
      show ({ U with heap := s₂.heap, slotsUsed := s₂.slotsUsed } : State) = { U.setFrames U.frames with heap := s₂.heap, slotsUsed := s₂.slotsUsed }
      rw [State.setFrames_self ht]
    subst hg
    refine Or.inl ⟨v, ⟨(({ U with heap := s₂.heap, slotsUsed := s₂.slotsUsed } : State).setVm s₂.vm), Ls ++ L, c0 + mc, s0 + ms⟩,
      ⟨X.admits, X.cas, X.clock, X.frames, X.room, X.hears, X.method, X.code, (X.here.setHeapUsed s₂.heap s₂.slotsUsed).setVm hW'.alike, X.tail, State.WarmedH.trans X.warmed hW', X.limits, X.bytes, X.same.trans (hsame.setVm s.vm)⟩,
      ⟨g, mk, s₂, L, rfl, rfl, hqc, rfl, hL, rfl, rfl⟩, ?_⟩
    show Steps p.tables e below _ ((({ U with heap := s₂.heap, slotsUsed := s₂.slotsUsed } : State).setVm s₂.vm).setTop { g with pc := g.pc + len₂, stack := v.toList ++ g.stack })
    rw [← hs₂]
    exact hsteps
  · obtain ⟨e2, q2, q3, q4, q5, q6⟩ := id hsm
    have e3 : s₂ = ({ (U.calling g mk a).setFrames s₂.frames with heap := s₂.heap, slotsUsed := s₂.slotsUsed } : State).setVm s₂.vm := by
      have : s₂ = ({ s₂ with vm := (U.calling g mk a).vm } : State).setVm s₂.vm := rfl
      rw [e2] at this
      exact this
    have hf₂ : s₂.frames = .throwing q :: .java g :: U.frames.tail := hend
    have hW' : U.WarmedH s₂.vm := hW₂
    have hs₂ : s₂ = ((({ U with heap := s₂.heap, slotsUsed := s₂.slotsUsed } : State).setVm s₂.vm).setTop g).pushFrame (.throwing q) := by
      refine e3.trans ?_
      rw [hf₂, State.calling_eq h.top, State.setFrames_setFrames, State.pushFrame, State.frames_setTop _ hr', State.setTop_of_frames _ hr', State.setFrames_setFrames, hr]
      rfl
    have hsame : U.sameButNew ({ U with heap := s₂.heap, slotsUsed := s₂.slotsUsed } : State) L mc ms := by
      refine ⟨?_, q2, q3, q4, q5, q6⟩
      obtain ⟨t, ht, -⟩ := State.frames_cons hr
      show ({ U with heap := s₂.heap, slotsUsed := s₂.slotsUsed } : State) = { U.setFrames U.frames with heap := s₂.heap, slotsUsed := s₂.slotsUsed }
      rw [State.setFrames_self ht]
    subst hg
    refine Or.inr ⟨q, ⟨(({ U with heap := s₂.heap, slotsUsed := s₂.slotsUsed } : State).setVm s₂.vm), Ls ++ L, c0 + mc, s0 + ms⟩,
      ⟨X.admits, X.cas, X.clock, X.frames, X.room, X.hears, X.method, X.code, (X.here.setHeapUsed s₂.heap s₂.slotsUsed).setVm hW'.alike, X.tail, State.WarmedH.trans X.warmed hW', X.limits, X.bytes, X.same.trans (hsame.setVm s.vm)⟩,
      ⟨g, mk, s₂, L, E, ce, rfl, rfl, hx, hce, hcv, hcl, rfl, hL, rfl, rfl⟩, ?_⟩
    show Steps p.tables e below _ (((({ U with heap := s₂.heap, slotsUsed := s₂.slotsUsed } : State).setVm s₂.vm).setTop g).pushFrame (.throwing q))
    rw [← hs₂]
    exact hsteps
end Payer
section Calls
variable {p : Program} {l : Launch} {e : Env} {R : Room} {s : State} {m : MethodId} {args : Array Value} {below : List Frame} {meth : Method} {c : Code} {T : State} {locs : List Loc} {cells slots : Nat}
theorem vx_callV (X : Stand p l e R s m args below meth c T locs cells slots) (hexec : p.tables.exec = Jvm.exec) {own C : String} {index : Nat} {y : MethodName} {bytes : ByteArray} {maxL : Nat} {ret : Option FieldType}
    (hown : s.vm.findClass own = some m.cls) (hlink : (Cond.methodLink own index y).before args s = true) (hinst : (Cond.instanceMethod y).before args s = true) (hsel : (Cond.selects C y y).before args s = true)
    (hcode : (Cond.code y bytes maxL ret).before args s = true) (hy : y.cls ≠ "java/lang/invoke/MethodHandle" ∧ y.cls ≠ "java/lang/invoke/VarHandle")
    {W9 : Nat} {Pre : Pt → Array Value → Prop} {Post : Pt → Array Value → Option Value → Pt → Prop} {PostX : Pt → Array Value → Addr → Pt → Prop} (hK : vx_Back l R p e below s args y 3 W9 Pre Post PostX)
    {b : Addr} {cellB : Cell} (hcell : T.heap[b]? = some cellB) (hobj : cellB.vm.isStatics = false) (hcls : s.vm.findClass C = some cellB.cls)
    {g : JFrame} (hg : g.method = m) (hsize : g.locals.size = c.maxLocals) {argsL rest : List Value} (hlen : ∀ sig, parseMethodDescriptor y.desc = some sig → argsL.length = sig.parameters.length)
    (hstack : g.stack = argsL.reverse ++ .ref b :: rest) (hW : 2 * g.monitorRoom + (rest.map fun v => v.category).sum ≤ W9) (hdg : decode c.code g.pc = .ok (.invokevirtual index, 3))
    (hpre : ∀ vm₁, s.WarmedH vm₁ → Pre ⟨T.setVm vm₁, locs, cells, slots⟩ (Value.ref b :: argsL).toArray) :
    (∃ (v : Option Value) (vm₁ : Vm) (B : Pt), s.WarmedH vm₁ ∧ Stand p l e R s m args below meth c B.U B.locs B.cells B.slots ∧ Post ⟨T.setVm vm₁, locs, cells, slots⟩ (Value.ref b :: argsL).toArray v B ∧
      ∀ target, Steps p.tables e below (B.U.setTop { g with pc := g.pc + 3, stack := v.toList ++ rest }) target → Steps p.tables e below (T.setTop g) target) ∨
    (∃ (q : Addr) (vm₁ : Vm) (B : Pt), s.WarmedH vm₁ ∧ Stand p l e R s m args below meth c B.U B.locs B.cells B.slots ∧ PostX ⟨T.setVm vm₁, locs, cells, slots⟩ (Value.ref b :: argsL).toArray q B ∧
      Steps p.tables e below (T.setTop g) ((B.U.setTop { g with stack := rest }).pushFrame (.throwing q))) := by
  obtain ⟨mk, methM, hnamed, hmethM, hstM, habM⟩ := Cond.instanceMethod_spec hinst
  obtain ⟨methM', cM, hmethM', -, -, -, -, -, -, hsigM⟩ := Cond.code_spec hnamed hcode
  cases hmethM.symm.trans hmethM'
  obtain ⟨c2, r2, m2, q1, q2, q3, q4, kP, hkP, hkPi⟩ := Cond.selects_spec hsel
  cases hcls.symm.trans q1
  cases (State.methodFound?_of_named hnamed hy).symm.trans q2
  cases hnamed.symm.trans q3
  have hselP : selectMethod e.platform s.vm cellB.cls mk = .method mk := by rw [Launch.admits_selectMethod X.admits]; exact q4
  obtain ⟨vm₁, X₁, hstep₁⟩ := X.invokevirtual hexec hown hlink hnamed hmethM hstM hkP hkPi hy (a := b) (cell := cellB) hcell
    (fun z h => by rw [h] at hobj; cases hobj) hselP hmethM habM hkP hkPi (g := g) hg (argsL := argsL) (rest := rest) (hlen _ hsigM) hstack hdg
  rcases hK m meth c ⟨T.setVm vm₁, locs, cells, slots⟩ { g with stack := rest } (.invokevirtual index) mk (Value.ref b :: argsL).toArray X₁ hg hsize hdg hW (X₁.named hnamed) (hpre vm₁ X₁.warmed) with ⟨v, B, X', hpost, hsteps⟩ | ⟨q, B, X', hpost, hsteps⟩
  · exact Or.inl ⟨v, vm₁, B, X₁.warmed, X', hpost, fun target h => hstep₁ _ fun acts => by rw [doInvoke_state]; exact hsteps.trans h⟩
  · exact Or.inr ⟨q, vm₁, B, X₁.warmed, X', hpost, hstep₁ _ fun acts => by rw [doInvoke_state]; exact hsteps⟩
theorem vx_callS (X : Stand p l e R s m args below meth c T locs cells slots) (hexec : p.tables.exec = Jvm.exec) {own : String} {index : Nat} {y : MethodName} {bytes : ByteArray} {maxL : Nat} {ret : Option FieldType}
    (hown : s.vm.findClass own = some m.cls) (hlink : (Cond.methodLink own index y).before args s = true) (hstat : (Cond.static y).before args s = true) (hinit : (Cond.initialized y.cls).before args s = true)
    (hcode : (Cond.code y bytes maxL ret).before args s = true) (hy : y.cls ≠ "java/lang/invoke/MethodHandle" ∧ y.cls ≠ "java/lang/invoke/VarHandle")
    {W9 : Nat} {Pre : Pt → Array Value → Prop} {Post : Pt → Array Value → Option Value → Pt → Prop} {PostX : Pt → Array Value → Addr → Pt → Prop} (hK : vx_Back l R p e below s args y 3 W9 Pre Post PostX)
    {g : JFrame} (hg : g.method = m) (hsize : g.locals.size = c.maxLocals) {argsL rest : List Value} (hlen : ∀ sig, parseMethodDescriptor y.desc = some sig → argsL.length = sig.parameters.length)
    (hstack : g.stack = argsL.reverse ++ rest) (hW : 2 * g.monitorRoom + (rest.map fun v => v.category).sum ≤ W9) (hdg : decode c.code g.pc = .ok (.invokestatic index, 3))
    (hpre : ∀ vm₁, s.WarmedH vm₁ → Pre ⟨T.setVm vm₁, locs, cells, slots⟩ argsL.toArray) :
    (∃ (v : Option Value) (vm₁ : Vm) (B : Pt), s.WarmedH vm₁ ∧ Stand p l e R s m args below meth c B.U B.locs B.cells B.slots ∧ Post ⟨T.setVm vm₁, locs, cells, slots⟩ argsL.toArray v B ∧
      ∀ target, Steps p.tables e below (B.U.setTop { g with pc := g.pc + 3, stack := v.toList ++ rest }) target → Steps p.tables e below (T.setTop g) target) ∨
    (∃ (q : Addr) (vm₁ : Vm) (B : Pt), s.WarmedH vm₁ ∧ Stand p l e R s m args below meth c B.U B.locs B.cells B.slots ∧ PostX ⟨T.setVm vm₁, locs, cells, slots⟩ argsL.toArray q B ∧
      Steps p.tables e below (T.setTop g) ((B.U.setTop { g with stack := rest }).pushFrame (.throwing q))) := by
  obtain ⟨mk, hnamed⟩ := Cond.code_named hcode
  obtain ⟨methM, cM, hmethM, -, -, -, -, -, -, hsigM⟩ := Cond.code_spec hnamed hcode
  have hstatic : methM.isStatic = true := Cond.static_spec hnamed hmethM hstat
  obtain ⟨kP, hkP, -⟩ := className_of_methodNamed hnamed
  have hinitP : kP.init = .initialized := Cond.initialized_spec (findClass_of_methodNamed hnamed) hkP hinit
  obtain ⟨vm₁, X₁, hstep₁⟩ := X.invokestatic hexec hown hlink hnamed hmethM hstatic hkP hinitP hy (g := g) hg (argsL := argsL) (rest := rest) (hlen _ hsigM) hstack hdg
  rcases hK m meth c ⟨T.setVm vm₁, locs, cells, slots⟩ { g with stack := rest } (.invokestatic index) mk argsL.toArray X₁ hg hsize hdg hW (X₁.named hnamed) (hpre vm₁ X₁.warmed) with ⟨v, B, X', hpost, hsteps⟩ | ⟨q, B, X', hpost, hsteps⟩
  · exact Or.inl ⟨v, vm₁, B, X₁.warmed, X', hpost, fun target h => hstep₁ _ fun acts => by rw [doInvoke_state]; exact hsteps.trans h⟩
  · exact Or.inr ⟨q, vm₁, B, X₁.warmed, X', hpost, hstep₁ _ fun acts => by rw [doInvoke_state]; exact hsteps⟩
end Calls
theorem vx_cls {s : State} {T : State} {vm₁ : Vm} {E : String} {k : ClassId} (hW : s.WarmedH vm₁) (h : (T.setVm vm₁).vm.findClass E = some k) : s.vm.findClass E = some k := by
  have h1 : vm₁.findClass E = some k := h
  rw [hW.alike.findClass] at h1
  exact h1
/-- the method's frame g, with q thrown over it -/
def vx_W (p : Program) (l : Launch) (e : Env) (R : Room) (s : State) (m : MethodId) (args : Array Value) (below : List Frame) (meth : Method) (c : Code) (H : Heap) (locs : List Loc) (cells slots : Nat) (Q : State → Prop) (g : JFrame) (q : Addr) : Prop :=
  ∀ T : State, T.heap = H → Stand p l e R s m args below meth c T locs cells slots → ∃ t, Steps p.tables e below ((T.setTop g).pushFrame (.throwing q)) t ∧ Q t
def vx_Run (p : Program) (l : Launch) (e : Env) (R : Room) (s : State) (m : MethodId) (args : Array Value) (below : List Frame) (meth : Method) (c : Code) (H : Heap) (locs : List Loc) (cells slots mc ms : Nat) (g : JFrame) (rest : List Value) (Qa : State → Outcome → State → Prop) (XC : String → State → State → Prop) (free : Addr → Prop) : Prop :=
  ∀ T : State, T.heap = H → Stand p l e R s m args below meth c T locs cells slots →
    (∃ (v : Option Value) (st₀ t T' : State) (L : List Loc), st₀.heap = H ∧ Stand p l e R s m args below meth c T' (locs ++ L) (cells + mc) (slots + ms) ∧ (∀ q ∈ L, free q.base) ∧ T'.heap = t.heap ∧ T'.vm = t.vm ∧ Qa st₀ (.returned v) t ∧
      Goes p e below T g T' { g with pc := g.pc + 3, stack := v.toList ++ rest }) ∨
    (∃ (q : Addr) (st₀ t T' : State) (L : List Loc) (E : String) (ce : Cell), st₀.heap = H ∧ Stand p l e R s m args below meth c T' (locs ++ L) (cells + mc) (slots + ms) ∧ (∀ z ∈ L, free z.base) ∧ T'.heap = t.heap ∧ T'.vm = t.vm ∧ XC E st₀ t ∧ t.heap[q]? = some ce ∧ ce.vm = .none ∧ s.vm.findClass E = some ce.cls ∧
      Steps p.tables e below (T.setTop g) ((T'.setTop { g with stack := rest }).pushFrame (.throwing q)))
def vx_X {S : Type} (px : S → Prop) (B : String → S → State → Prop) (A : Nat → Prop) : String → State → State → Prop := fun E st t => ∃ u : S, px u ∧ B E u t ∧ va_F A st t
section Runs
variable {p : Program} {l : Launch} {e : Env} {R : Room} {s : State} {m : MethodId} {args : Array Value} {below : List Frame} {meth : Method} {c : Code} {H : Heap} {locs : List Loc} {cells slots : Nat}
variable {y : MethodName} {bytes cc : ByteArray} {maxL nL mc ms n index : Nat} {ret : Option FieldType} {ws : List Cond} {rm : Room} {Pc : Array Value → State → Prop} {Qc : Array Value → State → Outcome → State → Prop} {XC : String → State → State → Prop} {free : Addr → Prop} {Ts : List Cond} {own C : String} {b : Addr} {As rest : List Value} {g : JFrame}
theorem vx_callBack (cb : CallB R s args own index y bytes maxL ret ws rm mc ms n) (hM : vx_Met l y ws rm Pc Qc XC mc ms free) (hbl : FrameBlind Pc) : vx_Back l R p e below s args y 3 8 (PreOf R mc ms Pc) (PostOf Qc mc ms free) (vx_Post XC mc ms free) := by
  obtain ⟨hrc, hrs, hfr, hlo, hws, hcw, -, hini, -⟩ := cb
  exact vx_back (bytes := bytes) (maxL := maxL) (ret := ret) hM hbl hrc hrs hfr hlo hws hcw (fun a' U hW => word_at hW (Or.inl (by first | rfl | simp [Cond.onTables, Cond.keeps, Cond.steady])) hini)
theorem vx_runV (S : CallFix p m c cc nL s args Ts own) (hM : vx_Met l y ws rm Pc Qc XC mc ms free) (cw : CallW R s args own C index y bytes maxL ret ws rm mc ms n) (hp : PreV s H C b Pc As)
    (hg : g.method = m) (hn : As.length = n) (hsize : g.locals.size = nL) (hstack : g.stack = As.reverse ++ .ref b :: rest) (hW : 2 * g.monitorRoom + (rest.map fun v => v.category).sum ≤ 8) (hdg : decode cc g.pc = .ok (.invokevirtual index, 3)) (hf : cells + mc ≤ R.cells ∧ slots + ms ≤ R.slots) :
    vx_Run p l e R s m args below meth c H locs cells slots mc ms g rest (Qc (Value.ref b :: As).toArray) XC free := by
  have hK : vx_Back l R p e below s args y 3 8 (PreOf R mc ms Pc) (PostOf Qc mc ms free) (vx_Post XC mc ms free) := vx_callBack cw.1 hM hp.1
  obtain ⟨⟨-, -, -, -, -, -, hcode, -, hy, hlen, hl⟩, hin, hse⟩ := cw
  obtain ⟨hx, hb, hml, ho, -⟩ := S
  obtain ⟨-, ⟨cellB, hcB, hoB, hclB⟩, hPc⟩ := hp
  intro T hT X
  rcases vx_callV X hx (C := C) (bytes := bytes) (maxL := maxL) (ret := ret) ho hl hin hse hcode hy hK (by rw [hT]; exact hcB) hoB hclB hg (hsize.trans hml.symm) (argsL := As) (rest := rest) (fun sig h => hn.trans (hlen sig h)) hstack hW (by rw [hb]; exact hdg)
    (fun vm₁ hW₁ => ⟨hf.1, hf.2, hPc (T.setVm vm₁) hT hW₁⟩) with ⟨v, vm₁, ⟨U', l2, c2, s2⟩, hW₁, X', ⟨g', mk, t, L, e1, e2, hq, h1, hL, h2, h3⟩, st⟩ | ⟨q, vm₁, ⟨U', l2, c2, s2⟩, hW₁, X', ⟨g', mk, t, L, E, ce, e1, e2, hq, hce, hcv, hcl, h1, hL, h2, h3⟩, st⟩
  · dsimp only [Pt.U, Pt.locs, Pt.cells, Pt.slots] at X' e1 e2 h1 h2 h3 st
    subst h1; subst h2; subst h3
    exact Or.inl ⟨v, (T.setVm vm₁).calling g' mk (Value.ref b :: As).toArray, t, U', L, hT, X', hL, e1, e2, hq, st⟩
  · dsimp only [Pt.U, Pt.locs, Pt.cells, Pt.slots] at X' e1 e2 h1 h2 h3 st hcl
    subst h1; subst h2; subst h3
    exact Or.inr ⟨q, (T.setVm vm₁).calling g' mk (Value.ref b :: As).toArray, t, U', L, E, ce, hT, X', hL, e1, e2, hq, hce, hcv, vx_cls hW₁ hcl, st⟩
theorem vx_runS (S : CallFix p m c cc nL s args Ts own) (hM : vx_Met l y ws rm Pc Qc XC mc ms free) (cw : CallB R s args own index y bytes maxL ret ws rm mc ms n ∧ (Cond.static y).before args s = true) (hp : PreS s H Pc As)
    (hg : g.method = m) (hn : As.length = n) (hsize : g.locals.size = nL) (hstack : g.stack = As.reverse ++ rest) (hW : 2 * g.monitorRoom + (rest.map fun v => v.category).sum ≤ 8) (hdg : decode cc g.pc = .ok (.invokestatic index, 3)) (hf : cells + mc ≤ R.cells ∧ slots + ms ≤ R.slots) :
    vx_Run p l e R s m args below meth c H locs cells slots mc ms g rest (Qc As.toArray) XC free := by
  have hK : vx_Back l R p e below s args y 3 8 (PreOf R mc ms Pc) (PostOf Qc mc ms free) (vx_Post XC mc ms free) := vx_callBack cw.1 hM hp.1
  obtain ⟨⟨-, -, -, -, -, -, hcode, hini, hy, hlen, hl⟩, hstt⟩ := cw
  obtain ⟨hx, hb, hml, ho, -⟩ := S
  intro T hT X
  rcases vx_callS X hx (bytes := bytes) (maxL := maxL) (ret := ret) ho hl hstt hini hcode hy hK hg (hsize.trans hml.symm) (argsL := As) (rest := rest) (fun sig h => hn.trans (hlen sig h)) hstack hW (by rw [hb]; exact hdg)
    (fun vm₁ hW₁ => ⟨hf.1, hf.2, hp.2 (T.setVm vm₁) hT hW₁⟩) with ⟨v, vm₁, ⟨U', l2, c2, s2⟩, hW₁, X', ⟨g', mk, t, L, e1, e2, hq, h1, hL, h2, h3⟩, st⟩ | ⟨q, vm₁, ⟨U', l2, c2, s2⟩, hW₁, X', ⟨g', mk, t, L, E, ce, e1, e2, hq, hce, hcv, hcl, h1, hL, h2, h3⟩, st⟩
  · dsimp only [Pt.U, Pt.locs, Pt.cells, Pt.slots] at X' e1 e2 h1 h2 h3 st
    subst h1; subst h2; subst h3
    exact Or.inl ⟨v, (T.setVm vm₁).calling g' mk As.toArray, t, U', L, hT, X', hL, e1, e2, hq, st⟩
  · dsimp only [Pt.U, Pt.locs, Pt.cells, Pt.slots] at X' e1 e2 h1 h2 h3 st hcl
    subst h1; subst h2; subst h3
    exact Or.inr ⟨q, (T.setVm vm₁).calling g' mk As.toArray, t, U', L, E, ce, hT, X', hL, e1, e2, hq, hce, hcv, vx_cls hW₁ hcl, st⟩
end Runs
section Rows
variable {p : Program} {l : Launch} {e : Env} {R : Room} {s : State} {m : MethodId} {args : Array Value} {below : List Frame} {meth : Method} {c : Code} {H : Heap} {locs : List Loc} {cells slots : Nat} {Q : State → Prop}
variable {mc ms : Nat} {free : Addr → Prop} {A0 A1 : Nat → Prop} {H0 : Heap} {a : Array Value} {pc : Nat} {ls : Array Slot} {st0 rest : List Value}
theorem vx_keep {st₀ t T' : State} {L : List Loc} (h0 : st₀.heap = H) (e1 : T'.heap = t.heap) (hS : va_S A0 H0 H locs) (hA : ∀ q, q < H.size → A1 q → A0 q) (hf : ∀ q, free q → A0 q) (hL : ∀ q ∈ L, free q.base) (hF : va_F A1 st₀ t) :
    H.size ≤ T'.heap.size ∧ (∀ q : Nat, q < H.size → ¬ A1 q → T'.heap[q]? = H[q]?) ∧ va_S A0 H0 T'.heap (locs ++ L) := by
  obtain ⟨hz, hk⟩ := hF
  rw [h0] at hz hk
  exact ⟨by rw [e1]; exact hz, fun q h1 h2 => by rw [e1]; exact hk q h1 h2,
    ⟨Nat.le_trans hS.1 (by rw [e1]; exact hz), fun q h1 h2 => by rw [e1, hk q (Nat.lt_of_lt_of_le h1 hS.1) (fun z => h2 (hA q (Nat.lt_of_lt_of_le h1 hS.1) z))]; exact hS.2.1 q h1 h2, fun q hq => by
      rcases List.mem_append.mp hq with h | h
      · exact hS.2.2 q h
      · exact hf _ (hL q h)⟩⟩
theorem vx_calli {S SX : Type} {post : Int32 → S → Prop} {px : SX → Prop} {B : S → State → Prop} {BX : String → SX → State → Prop} {AX : Nat → Prop} (hr : vx_Run p l e R s m args below meth c H locs cells slots mc ms (F0 m pc ls st0) rest (va_Qi post B A1 a) (vx_X px BX AX) free) (hS : va_S A0 H0 H locs) (hA : ∀ q, q < H.size → A1 q → A0 q) (hf : ∀ q, free q → A0 q) (hAX : ∀ q, q < H.size → AX q → A0 q)
    (kx : ∀ (E : String) (ce : Cell) (q9 : Addr) (u : SX) (t : State) (H1 : Heap) (locs1 : List Loc), t.heap = H1 → s.vm.Alike t.vm → px u → BX E u t → H.size ≤ H1.size → (∀ q : Nat, q < H.size → ¬ AX q → H1[q]? = H[q]?) → va_S A0 H0 H1 locs1 → H1[q9]? = some ce → ce.vm = .none → s.vm.findClass E = some ce.cls → vx_W p l e R s m args below meth c H1 locs1 (cells + mc) (slots + ms) Q (F0 m pc ls rest) q9)
    (kk : ∀ (r : Int32) (u : S) (t : State) (H1 : Heap) (locs1 : List Loc), t.heap = H1 → s.vm.Alike t.vm → post r u → B u t → H.size ≤ H1.size → (∀ q : Nat, q < H.size → ¬ A1 q → H1[q]? = H[q]?) → va_S A0 H0 H1 locs1 → W p l e R s m args below meth c H1 locs1 (cells + mc) (slots + ms) Q (F0 m (pc + 3) ls (.int r :: rest))) : W p l e R s m args below meth c H locs cells slots Q (F0 m pc ls st0) := by
  intro T hT X
  rcases hr T hT X with ⟨v, st₀, t, T', L, h0, X', hL, e1, e2, ⟨⟨r, u, hv, hp, hb⟩, hF⟩, st⟩ | ⟨q, st₀, t, T', L, E, ce, h0, X', hL, e1, e2, ⟨u, hp, hb, hF⟩, hce, hcv, hcl, st⟩
  · cases hv
    obtain ⟨k1, k2, k3⟩ := vx_keep h0 e1 hS hA hf hL hF
    obtain ⟨t2, a1, b1⟩ := kk r u t T'.heap (locs ++ L) e1.symm (by rw [← e2]; exact X'.warmed.alike) hp hb k1 k2 k3 T' rfl X'
    exact ⟨t2, st t2 a1, b1⟩
  · obtain ⟨k1, k2, k3⟩ := vx_keep h0 e1 hS hAX hf hL hF
    obtain ⟨t2, a1, b1⟩ := kx E ce q u t T'.heap (locs ++ L) e1.symm (by rw [← e2]; exact X'.warmed.alike) hp hb k1 k2 k3 (by rw [e1]; exact hce) hcv hcl T' rfl X'
    exact ⟨t2, st.trans a1, b1⟩
theorem vx_calll {S SX : Type} {post : Int64 → S → Prop} {px : SX → Prop} {B : S → State → Prop} {BX : String → SX → State → Prop} {AX : Nat → Prop} (hr : vx_Run p l e R s m args below meth c H locs cells slots mc ms (F0 m pc ls st0) rest (va_Ql post B A1 a) (vx_X px BX AX) free) (hS : va_S A0 H0 H locs) (hA : ∀ q, q < H.size → A1 q → A0 q) (hf : ∀ q, free q → A0 q) (hAX : ∀ q, q < H.size → AX q → A0 q)
    (kx : ∀ (E : String) (ce : Cell) (q9 : Addr) (u : SX) (t : State) (H1 : Heap) (locs1 : List Loc), t.heap = H1 → s.vm.Alike t.vm → px u → BX E u t → H.size ≤ H1.size → (∀ q : Nat, q < H.size → ¬ AX q → H1[q]? = H[q]?) → va_S A0 H0 H1 locs1 → H1[q9]? = some ce → ce.vm = .none → s.vm.findClass E = some ce.cls → vx_W p l e R s m args below meth c H1 locs1 (cells + mc) (slots + ms) Q (F0 m pc ls rest) q9)
    (kk : ∀ (r : Int64) (u : S) (t : State) (H1 : Heap) (locs1 : List Loc), t.heap = H1 → s.vm.Alike t.vm → post r u → B u t → H.size ≤ H1.size → (∀ q : Nat, q < H.size → ¬ A1 q → H1[q]? = H[q]?) → va_S A0 H0 H1 locs1 → W p l e R s m args below meth c H1 locs1 (cells + mc) (slots + ms) Q (F0 m (pc + 3) ls (.long r :: rest))) : W p l e R s m args below meth c H locs cells slots Q (F0 m pc ls st0) := by
  intro T hT X
  rcases hr T hT X with ⟨v, st₀, t, T', L, h0, X', hL, e1, e2, ⟨⟨r, u, hv, hp, hb⟩, hF⟩, st⟩ | ⟨q, st₀, t, T', L, E, ce, h0, X', hL, e1, e2, ⟨u, hp, hb, hF⟩, hce, hcv, hcl, st⟩
  · cases hv
    obtain ⟨k1, k2, k3⟩ := vx_keep h0 e1 hS hA hf hL hF
    obtain ⟨t2, a1, b1⟩ := kk r u t T'.heap (locs ++ L) e1.symm (by rw [← e2]; exact X'.warmed.alike) hp hb k1 k2 k3 T' rfl X'
    exact ⟨t2, st t2 a1, b1⟩
  · obtain ⟨k1, k2, k3⟩ := vx_keep h0 e1 hS hAX hf hL hF
    obtain ⟨t2, a1, b1⟩ := kx E ce q u t T'.heap (locs ++ L) e1.symm (by rw [← e2]; exact X'.warmed.alike) hp hb k1 k2 k3 (by rw [e1]; exact hce) hcv hcl T' rfl X'
    exact ⟨t2, st.trans a1, b1⟩
theorem vx_callv {S SX : Type} {post : S → Prop} {px : SX → Prop} {B : S → State → Prop} {BX : String → SX → State → Prop} {AX : Nat → Prop} (hr : vx_Run p l e R s m args below meth c H locs cells slots mc ms (F0 m pc ls st0) rest (va_Qv post B A1 a) (vx_X px BX AX) free) (hS : va_S A0 H0 H locs) (hA : ∀ q, q < H.size → A1 q → A0 q) (hf : ∀ q, free q → A0 q) (hAX : ∀ q, q < H.size → AX q → A0 q)
    (kx : ∀ (E : String) (ce : Cell) (q9 : Addr) (u : SX) (t : State) (H1 : Heap) (locs1 : List Loc), t.heap = H1 → s.vm.Alike t.vm → px u → BX E u t → H.size ≤ H1.size → (∀ q : Nat, q < H.size → ¬ AX q → H1[q]? = H[q]?) → va_S A0 H0 H1 locs1 → H1[q9]? = some ce → ce.vm = .none → s.vm.findClass E = some ce.cls → vx_W p l e R s m args below meth c H1 locs1 (cells + mc) (slots + ms) Q (F0 m pc ls rest) q9)
    (kk : ∀ (u : S) (t : State) (H1 : Heap) (locs1 : List Loc), t.heap = H1 → s.vm.Alike t.vm → post u → B u t → H.size ≤ H1.size → (∀ q : Nat, q < H.size → ¬ A1 q → H1[q]? = H[q]?) → va_S A0 H0 H1 locs1 → W p l e R s m args below meth c H1 locs1 (cells + mc) (slots + ms) Q (F0 m (pc + 3) ls (rest))) : W p l e R s m args below meth c H locs cells slots Q (F0 m pc ls st0) := by
  intro T hT X
  rcases hr T hT X with ⟨v, st₀, t, T', L, h0, X', hL, e1, e2, ⟨⟨u, hv, hp, hb⟩, hF⟩, st⟩ | ⟨q, st₀, t, T', L, E, ce, h0, X', hL, e1, e2, ⟨u, hp, hb, hF⟩, hce, hcv, hcl, st⟩
  · cases hv
    obtain ⟨k1, k2, k3⟩ := vx_keep h0 e1 hS hA hf hL hF
    obtain ⟨t2, a1, b1⟩ := kk u t T'.heap (locs ++ L) e1.symm (by rw [← e2]; exact X'.warmed.alike) hp hb k1 k2 k3 T' rfl X'
    exact ⟨t2, st t2 a1, b1⟩
  · obtain ⟨k1, k2, k3⟩ := vx_keep h0 e1 hS hAX hf hL hF
    obtain ⟨t2, a1, b1⟩ := kx E ce q u t T'.heap (locs ++ L) e1.symm (by rw [← e2]; exact X'.warmed.alike) hp hb k1 k2 k3 (by rw [e1]; exact hce) hcv hcl T' rfl X'
    exact ⟨t2, st.trans a1, b1⟩
end Rows
section Ends
variable {p : Program} {l : Launch} {e : Env} {R : Room} {s : State} {m : MethodId} {args : Array Value} {below : List Frame} {meth : Method} {c : Code} {H : Heap} {locs : List Loc} {cells slots : Nat} {Q : State → Prop}
variable {mc ms : Nat} {free : Addr → Prop} {A0 A1 : Nat → Prop} {H0 : Heap} {a : Array Value} {ls : Array Slot} {st0 rest : List Value}
variable {Qc : Array Value → State → Outcome → State → Prop} {XC : String → State → State → Prop}
/-- what a body that may throw owes at its end -/
def vx_MQ (below : List Frame) (Qc : Array Value → State → Outcome → State → Prop) (XC : String → State → State → Prop) (a : Array Value) (s : State) (mc ms : Nat) (free : Addr → Prop) : State → Prop := fun t =>
  ∃ o, t.status = .running ∧ Ended t below o ∧ vx_Q Qc XC mc ms free a s o t
theorem vx_ret {g : JFrame} {mc ms : Nat} (k : W p l e R s m args below meth c H locs cells slots (MQ below Qc args s mc ms free) g) : W p l e R s m args below meth c H locs cells slots (vx_MQ below Qc XC args s mc ms free) g := by
  intro T hT X
  obtain ⟨t, a1, o, b1, b2, b3, b4⟩ := k T hT X
  exact ⟨t, a1, o, b1, b2, Or.inl ⟨b3, b4⟩⟩
/-- not caught here: it goes on to the caller -/
theorem vx_widen {g : JFrame} {q : Addr} {k n : Nat} (h1 : cells ≤ k) (h2 : slots ≤ n) (kk : vx_W p l e R s m args below meth c H locs k n Q g q) : vx_W p l e R s m args below meth c H locs cells slots Q g q := fun T hT X => kk T hT (stand_widen X h1 h2)
theorem vx_out {pc : Nat} {E : String} {ce : Cell} {q : Addr} {mc ms : Nat} (hout : ∀ x ∈ c.exceptionTable.toList, covers x pc = false) (hlocks : meth.locks = false) (hcell : H[q]? = some ce) (hv : ce.vm = .none) (hcl : s.vm.findClass E = some ce.cls)
    (hx : ∀ t : State, t.heap = H → s.vm.Alike t.vm → XC E s t) (hf : ∀ z ∈ locs, free z.base) (hc : cells ≤ mc) (hs : slots ≤ ms) :
    vx_W p l e R s m args below meth c H locs cells slots (vx_MQ below Qc XC args s mc ms free) (F0 m pc ls rest) q := by
  intro T hT X
  obtain ⟨st1, hrun, hend, hW, hsm⟩ := X.leaveThrown q (g := F0 m pc ls rest) rfl rfl rfl hout hlocks
  have hcell9 : (T.setFrames (.throwing q :: below)).heap[q]? = some ce := by
    show T.heap[q]? = some ce
    rw [hT]; exact hcell
  exact ⟨_, st1, .threw q, hrun, hend, Or.inr ⟨q, rfl, E, ce, locs, hx _ hT hW.alike, hcell9, hv, hcl, hW, hsm.mono hc hs, hf⟩⟩
theorem vx_frame {U : State} {k n : Nat} (h : s.sameButNew ({ U with vm := s.vm } : State) locs k n) : s.heap.size ≤ U.heap.size ∧ ∀ q : Nat, q < s.heap.size → (∀ z ∈ locs, z.base ≠ q) → U.heap[q]? = s.heap[q]? := by
  obtain ⟨-, h2, -, -, -, h6⟩ := h
  refine ⟨h2, fun q hq hz => ?_⟩
  obtain ⟨c9, e1, e2, e3, e4⟩ := h6 q _ (Array.getElem?_eq_getElem hq)
  have hs : c9.slots = (s.heap[q]).slots := Array.ext_getElem? fun i => e4 i fun hm => hz _ hm rfl
  have h9 : c9 = s.heap[q] := by
    rw [hs] at e2
    exact e2
  have e5 : U.heap[q]? = some c9 := e1
  rw [e5, h9, Array.getElem?_eq_getElem hq]
/-- the words of a throw but the four that speak of the heap -/
def vx_no (w : Cond) : Bool := decide (w ≠ .isRef (.static Bundle.tN "UNASSIGNED_STACK" Bundle.steD)) && decide (w ≠ .isRef (.static Bundle.tN "SUPPRESSED_SENTINEL" Bundle.listD)) && decide (w ≠ .laysStatic Bundle.tN "UNASSIGNED_STACK" Bundle.steD) && decide (w ≠ .laysStatic Bundle.tN "SUPPRESSED_SENTINEL" Bundle.listD)
def vx_at0 (own : String) (ic : Nat) (X : String) (names : List String) : List Cond := (Bundle.ownAtoms0 own ic X names).filter vx_no
def vx_atS (own : String) (ic : Nat) (X : String) (names : List String) : List Cond := (Bundle.ownAtoms own ic X names).filter vx_no
/-- a word that the tables alone decide, or a good one -/
def vx_ot (w : Cond) : Bool := w.onTables || goodWord w
theorem vx_ot_at {args a' : Array Value} {s U : State} {w : Cond} (hW : s.WarmedH U.vm) (hvm : s.vm = U.vm) (hg : vx_ot w = true) (h : w.before args s = true) : w.before a' U = true := by
  simp only [vx_ot, Bool.or_eq_true] at hg
  rcases hg with hg | hg
  · exact va_tabs hg hvm h
  · exact word_at hW (good_of_word hg) h
/-- a list's words: the good ones out of the method's own list, the others by premises of their own -/
theorem vx_hat {args : Array Value} {s : State} {L B : List Cond} (h1 : ∀ w ∈ L.filter goodWord, w.before args s = true) (h2 : ∀ w ∈ L.filter (fun w => !goodWord w), w ∈ B) (h3 : ∀ w ∈ B, w.before args s = true) : ∀ w ∈ L, w.before args s = true := by
  intro w hw
  by_cases g : goodWord w = true
  · exact h1 w (List.mem_filter.mpr ⟨hw, g⟩)
  · refine h3 w (h2 w (List.mem_filter.mpr ⟨hw, ?_⟩))
    show (!goodWord w) = true
    cases hgw : goodWord w
    · rfl
    · exact absurd hgw g
theorem vx_c {args : Array Value} {s : State} {w : Cond} {B : List Cond} (h : w.before args s = true) (t : ∀ w ∈ B, w.before args s = true) : ∀ w' ∈ w :: B, w'.before args s = true := fun w' h' => (List.mem_cons.mp h').elim (fun e => by rw [e]; exact h) (t w')
theorem vx_n {args : Array Value} {s : State} : ∀ w ∈ ([] : List Cond), w.before args s = true := fun _ h => nomatch h
theorem vx_own {args : Array Value} {s : State} {L : List Cond} (h1 : ∀ w ∈ L.filter vx_no, w.before args s = true)
    (hU : (Cond.isRef (.static Bundle.tN "UNASSIGNED_STACK" Bundle.steD)).before args s = true) (hN : (Cond.isRef (.static Bundle.tN "SUPPRESSED_SENTINEL" Bundle.listD)).before args s = true)
    (lU : (Cond.laysStatic Bundle.tN "UNASSIGNED_STACK" Bundle.steD).before args s = true) (lN : (Cond.laysStatic Bundle.tN "SUPPRESSED_SENTINEL" Bundle.listD).before args s = true) : ∀ w ∈ L, w.before args s = true := by
  intro w hw
  by_cases e1 : w = .isRef (.static Bundle.tN "UNASSIGNED_STACK" Bundle.steD)
  · rw [e1]; exact hU
  · by_cases e2 : w = .isRef (.static Bundle.tN "SUPPRESSED_SENTINEL" Bundle.listD)
    · rw [e2]; exact hN
    · by_cases e3 : w = .laysStatic Bundle.tN "UNASSIGNED_STACK" Bundle.steD
      · rw [e3]; exact lU
      · by_cases e4 : w = .laysStatic Bundle.tN "SUPPRESSED_SENTINEL" Bundle.listD
        · rw [e4]; exact lN
        · exact h1 w (List.mem_filter.mpr ⟨hw, by unfold vx_no; rw [decide_eq_true e1, decide_eq_true e2, decide_eq_true e3, decide_eq_true e4]; rfl⟩)
/-- where a static field lies, its class's statics cell in H -/
def vx_L (C n d : String) (A : Nat → Prop) (U : State) (H : Heap) : Prop := ∃ (c : ClassId) (k : Class) (i : Nat) (f : Field) (a : Nat) (cell : Cell), U.vm.findClass C = some c ∧ U.fieldFound? C n d = some (c, k, i, f) ∧ f.isStatic = true ∧ k.statics = some a ∧ H[a]? = some cell ∧ cell.vm.isStatics = true ∧ cell.cls = c ∧ f.slot < cell.slots.size ∧ k.staticTypes[f.slot]? = some f.type ∧ ¬ A a
theorem vx_L.moved {C n d : String} {A : Nat → Prop} {u U : State} {H : Heap} (hvm : u.vm.Alike U.vm) (h : vx_L C n d A u H) : vx_L C n d A U H := by
  obtain ⟨c, k, i, f, a, cell, h1, h2, h3, h4, h5, h6, h7, h8, h9, h10⟩ := h
  obtain ⟨k', hi', he⟩ := State.fieldFound?_setVm hvm h2
  exact ⟨c, k', i, f, a, cell, by rw [hvm.findClass]; exact h1, hi', h3, by rw [he]; exact h4, h5, h6, h7, h8, by rw [he]; exact h9, h10⟩
theorem vx_L.kept {C n d : String} {A : Nat → Prop} {U : State} {H H1 : Heap} (h : vx_L C n d A U H) (hq : ∀ a : Nat, a < H.size → ¬ A a → H1[a]? = H[a]?) : vx_L C n d A U H1 := by
  obtain ⟨c, k, i, f, a, cell, h1, h2, h3, h4, h5, h6, h7, h8, h9, h10⟩ := h
  exact ⟨c, k, i, f, a, cell, h1, h2, h3, h4, by rw [hq a (Array.getElem?_eq_some_iff.mp h5).1 h10]; exact h5, h6, h7, h8, h9, h10⟩
theorem vx_L.narrow {C n d : String} {A B : Nat → Prop} {U : State} {H : Heap} (h : vx_L C n d A U H) (hAB : ∀ q, B q → A q) : vx_L C n d B U H := by
  obtain ⟨c, k, i, f, a, cell, h1, h2, h3, h4, h5, h6, h7, h8, h9, h10⟩ := h
  exact ⟨c, k, i, f, a, cell, h1, h2, h3, h4, h5, h6, h7, h8, h9, fun z => h10 (hAB _ z)⟩
theorem vx_L.word {C n d : String} {A : Nat → Prop} {s : State} {args : Array Value} (h : vx_L C n d A s s.heap) : (Cond.laysStatic C n d).before args s = true := by
  obtain ⟨c, k, i, f, a, cell, h1, h2, h3, h4, h5, h6, h7, h8, h9, -⟩ := h
  show (Cond.laysStatic C n d).holds args s none s [] = true
  exact Cond.laysStatic_of h1 h2 h3 h4 h5 h6 h7 h8 h9
/-- .. and what it holds: null or some reference -/
def vx_Zq (C n d : String) (A : Nat → Prop) (U : State) (H : Heap) : Prop := va_Zq C n d A U H ∧ vx_L C n d A U H
theorem vx_Zq.moved {C n d : String} {A : Nat → Prop} {u U : State} {H : Heap} (hvm : u.vm.Alike U.vm) (h : vx_Zq C n d A u H) : vx_Zq C n d A U H := ⟨va_Zq.moved hvm h.1, vx_L.moved hvm h.2⟩
theorem vx_Zq.kept {C n d : String} {A : Nat → Prop} {U : State} {H H1 : Heap} (h : vx_Zq C n d A U H) (hq : ∀ a : Nat, a < H.size → ¬ A a → H1[a]? = H[a]?) : vx_Zq C n d A U H1 := ⟨va_Zq.kept h.1 hq, vx_L.kept h.2 hq⟩
theorem vx_Zq.narrow {C n d : String} {A B : Nat → Prop} {U : State} {H : Heap} (h : vx_Zq C n d A U H) (hAB : ∀ q, B q → A q) : vx_Zq C n d B U H := ⟨va_Zq.narrow h.1 hAB, vx_L.narrow h.2 hAB⟩
theorem vx_Zqof {args : Array Value} {s : State} {C n d : String} {A : Nat → Prop} (hl : (Cond.laysStatic C n d).before args s = true) (hini : (Cond.initialized C).before args s = true) (h : (Cond.isRef (.static C n d)).before args s = true) (hA : ∀ a : Nat, a < s.heap.size → ¬ A a) : vx_Zq C n d A s s.heap := by
  refine ⟨va_Zqof hl hini h hA, ?_⟩
  obtain ⟨c, k, i, f, a, cell, h1, h2, h3, h4, h5, h6, h7, h8, h9⟩ := Cond.laysStatic_spec hl
  exact ⟨c, k, i, f, a, cell, h1, h2, h3, h4, h5, h6, h7, h8, h9, hA a (Array.getElem?_eq_some_iff.mp h5).1⟩
theorem vx_isRef {C n d : String} {v : Value} {A : Nat → Prop} {s : State} {args : Array Value} (h : va_Z C n d v A s s.heap) (hv : v.isRef = true) : (Cond.isRef (.static C n d)).before args s = true := by
  obtain ⟨cf, kf, fi, f, a, cell, h1, h2, h3, h4, h5, h6, h7, -⟩ := h
  have he : (Term.static C n d).eval args s none [] s = some v := by
    simp [Term.eval, State.fieldNamed?, h1, h2, h4, h5, h6, h7]
  simp only [Cond.before, Cond.holds, Cond.value, he]
  cases v <;> simp_all [Value.isRef]
theorem vx_isRefq {C n d : String} {A : Nat → Prop} {s : State} {args : Array Value} (h : va_Zq C n d A s s.heap) : (Cond.isRef (.static C n d)).before args s = true := by
  rcases h with h | ⟨t, h⟩
  · exact vx_isRef h rfl
  · exact vx_isRef h rfl
/-- the same frame, seen from here: as if the method were called anew in this heap -/
theorem vx_rebase {T : State} (X : Stand p l e R s m args below meth c T locs cells slots) {R' : Room} (hf : R'.frames ≤ R.frames) (hl : R'.locals ≤ R.locals) (hc : cells + R'.cells ≤ R.cells) (hs : slots + R'.slots ≤ R.slots) :
    Stand p l e R' ((T.setVm s.vm).setFrames (.invoking m args :: below)) m args below meth c T [] 0 0 := by
  have htop : (T.setVm s.vm).topJava?.isSome := X.here.top
  have hF : ((T.setVm s.vm).setFrames (.invoking m args :: below)).frames = .invoking m args :: below := State.frames_setFrames _ (State.cur_lt_of_top htop)
  obtain ⟨g₀, hg0⟩ := Option.isSome_iff_exists.mp htop
  obtain ⟨r, hr⟩ := State.topJava?_eq_some.mp hg0
  have hl9 : e.platform.stackLimits (T.setVm s.vm).me = e.platform.stackLimits s.me := X.limits
  have hb9 : (T.setVm s.vm).me.stackBytes = s.me.stackBytes := X.bytes
  refine ⟨X.admits, X.cas, X.clock, hF, ?_, X.hears, X.method, X.code, X.here, X.tail, X.warmed, ?_, ?_, ?_⟩
  · have h := X.room
    have hU : ((T.setVm s.vm).setFrames (.invoking m args :: below)).localsInUse = s.localsInUse := by
      rw [State.localsInUse_invoking hF (meth := meth) (c := c) X.method X.code, State.localsInUse_invoking X.frames X.method X.code]
    simp only [State.hasRoom, Bool.and_eq_true, decide_eq_true_eq] at h ⊢
    obtain ⟨⟨⟨⟨h1, h2, h3, h4, h5, h6⟩, h7⟩, h8⟩, h9⟩ := h
    rw [X.frames, List.length_cons] at h2 h3
    have q1 := X.heapSize
    have q2 := X.used
    simp only [hF, hU, List.length_cons, State.stackLimits_setFrames, State.stackBytes_setFrames, hl9, hb9]
    refine ⟨⟨⟨⟨by omega, by omega, by omega, by omega, by omega, h6⟩, ?_⟩, ?_⟩, X.book⟩
    · show T.heap.size + R'.cells ≤ e.platform.maxCells
      omega
    · show T.slotsUsed + R'.slots ≤ e.platform.maxSlots
      omega
  · rw [State.stackLimits_setFrames]; rfl
  · rw [State.stackBytes_setFrames]; rfl
  · refine ⟨?_, Nat.le_refl _, Nat.le_refl _, ?_, ?_, fun a c9 h9 => ⟨c9, h9, rfl, rfl, fun _ _ => rfl⟩⟩
    · obtain ⟨t, ht, -⟩ := State.frames_cons hr
      show T.setVm s.vm = { ((T.setVm s.vm).setFrames (.invoking m args :: below)).setFrames (T.setVm s.vm).frames with heap := T.heap, slotsUsed := T.slotsUsed }
      rw [State.setFrames_setFrames, State.setFrames_self ht]
      rfl
    · show T.slotsUsed = T.slotsUsed + ((T.heap.toList.drop T.heap.size).map (·.slots.size)).sum
      rw [List.drop_eq_nil_of_le (Nat.le_of_eq Array.length_toList)]
      rfl
    · show ((T.heap.toList.drop T.heap.size).map (·.slots.size)).sum ≤ 0
      rw [List.drop_eq_nil_of_le (Nat.le_of_eq Array.length_toList)]
      exact Nat.le_refl _
/-- 'throw new E()': new; dup; invokespecial; athrow -/
theorem vx_throw0 {cc : ByteArray} {pc : Nat} (hexec : p.tables.exec = Jvm.exec) (hb : c.code = cc) (hl : l.stackTraces = false) {own cls : String} {names : List String} {ik ic mc ms : Nat} {A : Nat → Prop}
    (hown : s.vm.findClass own = some m.cls) (hcls : Bundle.fit cls = true) (hnames : ∀ n ∈ names, Bundle.fit n = true)
    (hk : (Cond.classLink own ik cls).before args s = true) (hini : (Cond.initialized cls).before args s = true) (hat : ∀ w ∈ vx_at0 own ic cls names, w.before args s = true)
    (hgood : ∀ w ∈ Cond.classLink own ik cls :: Cond.initialized cls :: vx_at0 own ic cls names, vx_ot w = true)
    (hU : vx_Zq Bundle.tN "UNASSIGNED_STACK" Bundle.steD A s s.heap) (hN : vx_Zq Bundle.tN "SUPPRESSED_SENTINEL" Bundle.listD A s s.heap) (hS : va_S A s.heap H locs) (hsize : ls.size = c.maxLocals)
    (d0 : decode cc pc = .ok (.new ik, 3)) (d3 : decode cc (pc + 3) = .ok (.dup, 1)) (d4 : decode cc (pc + 4) = .ok (.invokespecial ic, 3)) (d7 : decode cc (pc + 7) = .ok (.athrow, 1))
    (hout : ∀ x ∈ c.exceptionTable.toList, covers x (pc + 7) = false)
    (hRframes : names.length + 3 < R.frames) (hRlocals : (rest.map fun v => v.category).sum + (13 * (names.length + 1) + 42) ≤ R.locals) (hRcells : cells + 1 ≤ R.cells) (hRslots : slots + 6 ≤ R.slots) (hlocks : meth.locks = false)
    (hx : ∀ t : State, s.vm.Alike t.vm → H.size ≤ t.heap.size → (∀ q : Nat, q < H.size → t.heap[q]? = H[q]?) → XC cls s t)
    (hf : ∀ z ∈ locs, free z.base) (hc : cells + 1 ≤ mc) (hs : slots + 6 ≤ ms) :
    W p l e R s m args below meth c H locs cells slots (vx_MQ below Qc XC args s mc ms free) (F0 m pc ls rest) := by
  intro T hT X
  have htr : e.platform.stackTraces = false := (show e.platform.stackTraces = l.stackTraces by rw [X.admits.platform]).trans hl
  have Y := vx_rebase X (R' := { frames := R.frames, locals := R.locals, cells := 1, slots := 6 }) (Nat.le_refl _) (Nat.le_refl _) hRcells hRslots
  obtain ⟨s', hA⟩ : ∃ z, z = (T.setVm s.vm).setFrames (.invoking m args :: below) := ⟨_, rfl⟩
  rw [← hA] at Y
  have hvm : s'.vm = s.vm := by rw [hA]; rfl
  have hhp : s'.heap = H := by rw [hA]; exact hT
  have hW0 : s.WarmedH s'.vm := by rw [hvm]; exact State.WarmedH.refl s
  have hat' : ∀ w ∈ vx_at0 own ic cls names, w.before args s' = true := fun w hw => vx_ot_at hW0 hvm.symm (hgood w (List.mem_cons_of_mem _ (List.mem_cons_of_mem _ hw))) (hat w hw)
  have hk' : (Cond.classLink own ik cls).before args s' = true := vx_ot_at hW0 hvm.symm (hgood _ List.mem_cons_self) hk
  have hini' : (Cond.initialized cls).before args s' = true := vx_ot_at hW0 hvm.symm (hgood _ (List.mem_cons_of_mem _ List.mem_cons_self)) hini
  have hU' : vx_Zq Bundle.tN "UNASSIGNED_STACK" Bundle.steD A s' s'.heap := by rw [hhp]; exact vx_Zq.moved hW0.alike (hU.kept hS.2.1)
  have hN' : vx_Zq Bundle.tN "SUPPRESSED_SENTINEL" Bundle.listD A s' s'.heap := by rw [hhp]; exact vx_Zq.moved hW0.alike (hN.kept hS.2.1)
  have h : ∀ w ∈ Bundle.ownAtoms0 own ic cls names, w.before args s' = true := vx_own hat' (vx_isRefq hU'.1) (vx_isRefq hN'.1) hU'.2.word hN'.2.word
  have hown' : s'.vm.findClass own = some m.cls := by rw [hvm]; exact hown
  have hins : (Cond.instantiable cls 6).before args s' = true := h _ (by simp [Bundle.ownAtoms0])
  obtain ⟨vm₁, cX, kX, hfX, hkX, -, -, X₁, st1⟩ := Y.newCold hexec (own := own) (C := cls) (index := ik) (n := 6) hown' hk' hins hini'
    (g := F0 m pc ls rest) rfl (by rw [hb]; exact d0) (Nat.le_refl _) (Nat.le_refl _)
  generalize hT1 : (T.setVm vm₁).pushCell { cls := cX, slots := kX.instanceTypes.map defaultValue, vm := .none } = T1 at X₁ st1
  have hcat : (Value.ref T.heap.size).category = 1 := rfl
  have hcellA : T1.heap[T.heap.size]? = some (freshCell cX kX) := by rw [← hT1]; exact State.heap_pushCell_size _ _
  have d3' : decode c.code (pc + 3) = .ok (.dup, 1) := by rw [hb]; exact d3
  obtain ⟨U, hsteps, hrun, hend, hW, hsame, ce, hce, hO⟩ := X₁.ctorThrow0 hexec htr (own := own) (cls := cls) (names := names) (ic := ic) hown' hcls hnames h (fun x hx => nomatch hx) hfX hkX hcellA (by rw [hhp, hT]; exact Nat.le_refl _)
    (g := { method := m, pc := pc + 4, locals := ls, stack := .ref T.heap.size :: .ref T.heap.size :: rest, locked := none }) rfl hsize rfl rfl (rest := rest) rfl
    (by rw [hb]; exact d4) (by rw [hb]; exact d7) hout hRframes (by simp only [List.map_cons, List.sum_cons, hcat]; omega) hlocks
  obtain ⟨f1, f2⟩ := vx_frame hsame
  rw [hhp] at f1 f2
  have hWs : s.WarmedH U.vm := State.WarmedH.trans hW0 hW
  have hcl : s.vm.findClass cls = some ce.cls := by
    have h9 := hO.cls
    rw [hvm] at h9
    exact h9
  have hall : s.sameButNew ({ U with vm := s.vm } : State) locs mc ms := by
    subst hA
    obtain ⟨e1, e2⟩ := hsame
    rw [State.setFrames_setFrames] at e1
    have h2 : (T.setVm s.vm).sameButNew ({ U with vm := s.vm } : State) [] (0 + 1) (0 + 6) := ⟨e1, e2⟩
    have h3 := X.same.trans h2
    rw [List.append_nil] at h3
    exact h3.mono hc hs
  refine ⟨U, ?_, .threw T.heap.size, hrun, hend, Or.inr ⟨T.heap.size, rfl, cls, ce, locs, hx U hWs.alike f1 (fun q hq => f2 q hq (fun z hz => nomatch hz)), hce, hO.vm, hcl, hWs, hall, hf⟩⟩
  refine st1 _ ?_
  show Steps p.tables e below (T1.setTop { method := m, pc := pc + 3, locals := ls, stack := .ref T.heap.size :: rest, locked := none }) _
  jvm_step X₁.here [X₁.here.top, hexec, d3', Value.category]
  exact hsteps
end Ends
section Bodies
variable {l : Launch}
theorem vx_ofW {y : MethodName} {ws ws' : List Cond} {rm : Room} {Pc : Array Value → State → Prop} {Qc : Array Value → State → Outcome → State → Prop} {XC : String → State → State → Prop} {mc ms : Nat} {free : Addr → Prop} {cc : ByteArray} {maxL : Nat} {ret : Option FieldType}
    (hy : plainName y.cls = true) (hw : ws = Cond.code y cc maxL ret :: ws')
    (body : ∀ p e s m args below meth c s₁, BodyLoose p l y (headSpec ws rm) cc maxL ret e s m args below meth c s₁ → c.maxLocals = maxL → (∀ x ∈ c.exceptionTable.toList, False) → Pc args s →
      W p l e (headSpec ws rm).room s m args below meth c s.heap [] 0 0 (vx_MQ below Qc XC args s mc ms free) (entryFrame m args maxL)) : vx_Met l y ws rm Pc Qc XC mc ms free := by
  refine MetFree.of_bodyS (code := cc) (maxLocals := maxL) (ret := ret) hy ?_ ?_
  · intro args s m h hn
    obtain ⟨meth, c, h1, h2, h3, h4, h5, h6, -, -⟩ := Cond.code_spec hn (atoms_spec (ws := ws) h _ (by rw [hw]; exact List.mem_cons_self))
    exact ⟨meth, c, h1, h2, h3, h4, h5, h6⟩
  · intro p e s m args below meth c s₁ B hml hP _
    have hh0 : s₁.heap = s.heap := by rw [B.state]; rfl
    have ht : ∀ x ∈ c.exceptionTable.toList, False := by
      obtain ⟨meth9, c9, h1, h2, -, -, -, -, h7, -⟩ := Cond.code_spec B.named (atoms_spec (ws := ws) B.pre _ (by rw [hw]; exact List.mem_cons_self))
      cases Option.some.inj (h1.symm.trans B.method)
      cases Option.some.inj (h2.symm.trans (Stand.of_body B).code)
      intro x hx
      rw [Array.isEmpty_iff.mp h7] at hx
      cases hx
    obtain ⟨t, a1, o, b1, b2, b3⟩ := body p e s m args below meth c s₁ B hml ht hP s₁ hh0 (Stand.of_body B)
    exact ⟨t, o, a1, b1, b2, b3⟩
/-- the table of a body with handlers -/
theorem vx_table {p : Program} {x y : MethodName} {S : Spec} {cc bytes : ByteArray} {maxL maxL' : Nat} {ret ret' : Option FieldType} {e : Env} {s s₁ : State} {m : MethodId} {args : Array Value} {below : List Frame} {meth : Method} {c : Code} {hh : List (Nat × Nat × Nat × Nat)}
    (B : BodyLoose p l y S cc maxL ret e s m args below meth c s₁) (h : (Cond.codeWith y bytes maxL' ret' hh).before args s = true) : c.exceptionTable.toList = tableOf hh := by
  obtain ⟨m9, meth9, c9, hn9, h1, h2, -, -, h6, -⟩ := Cond.codeWith_spec h
  cases Option.some.inj (hn9.symm.trans B.named)
  cases Option.some.inj (h1.symm.trans B.method)
  cases Option.some.inj (h2.symm.trans (Stand.of_body B).code)
  rw [← h6, table_eq]
end Bodies
end VXA
/-! ===== END ===== -/
/-! ===== BEGIN a static call of a method with an exception table ===== -/
section VXS
variable {p : Program} {l : Launch} {e : Env} {R : Room} {s : State} {m : MethodId} {args : Array Value} {below : List Frame} {meth : Method} {c : Code} {T : State} {H : Heap} {locs : List Loc} {cells slots : Nat}
abbrev vx_CSW (R : Room) (s : State) (args : Array Value) (own : String) (index : Nat) (y : MethodName) (bytes : ByteArray) (maxL : Nat) (ret : Option FieldType) (hh : List (Nat × Nat × Nat × Nat)) (ws : List Cond) (rm : Room) (mc ms n : Nat) : Prop :=
  (rm.cells = mc ∧ rm.slots = ms ∧ rm.frames + 1 ≤ R.frames ∧ 8 + (maxL + 11) + rm.locals ≤ R.locals ∧ (∀ w ∈ ws, ∀ (a' : Array Value) (U : State), s.WarmedH U.vm → w.before a' U = true) ∧ Cond.codeWith y bytes maxL ret hh ∈ ws) ∧
  (Cond.codeWith y bytes maxL ret hh).before args s = true ∧ (Cond.initialized y.cls).before args s = true ∧ (y.cls ≠ "java/lang/invoke/MethodHandle" ∧ y.cls ≠ "java/lang/invoke/VarHandle") ∧
  (∀ sig, parseMethodDescriptor y.desc = some sig → n = sig.parameters.length) ∧ (Cond.methodLink own index y).before args s = true ∧ (Cond.static y).before args s = true
theorem vx_cwSW {own : String} {index maxL mc ms : Nat} {y : MethodName} {bytes : ByteArray} {ret : Option FieldType} {hh : List (Nat × Nat × Nat × Nat)} {Ts ws ws' : List Cond} {rm : Room} (n : Nat) (ht : ∀ w ∈ Ts, w.before args s = true) (hT : GoodIn Ts (va_wsS own index y ws)) (hw : ws = Cond.codeWith y bytes maxL ret hh :: ws') (hrc : rm.cells = mc) (hrs : rm.slots = ms)
    (hd : y.cls ≠ "java/lang/invoke/MethodHandle" ∧ y.cls ≠ "java/lang/invoke/VarHandle" ∧ (parseMethodDescriptor y.desc).map (fun d => d.parameters.length) = some n) (hR : rm.frames + 1 ≤ R.frames ∧ 8 + (maxL + 11) + rm.locals ≤ R.locals) :
    vx_CSW R s args own index y bytes maxL ret hh ws rm mc ms n := by
  have ok : ∀ w ∈ va_wsS own index y ws, w.before args s = true := fun w h => ht w (hT w h).1
  have hG : GoodIn Ts ws := fun w h => hT w (by unfold va_wsS; exact List.mem_append_right _ h)
  have hc : Cond.codeWith y bytes maxL ret hh ∈ ws := by rw [hw]; exact List.mem_cons_self
  refine ⟨⟨hrc, hrs, hR.1, hR.2, pay_in ht hG, hc⟩, ht _ (hG _ hc).1, ok _ (by simp [va_wsS]), ⟨hd.1, hd.2.1⟩, fun sig h => ?_, ok _ (by simp [va_wsS]), ok _ (by simp [va_wsS])⟩
  have h2 := hd.2.2
  rw [h] at h2
  exact (Option.some.inj h2).symm
theorem vx_callSW (X : Stand p l e R s m args below meth c T locs cells slots) (hexec : p.tables.exec = Jvm.exec) {own : String} {index : Nat} {y : MethodName} {bytes : ByteArray} {maxL : Nat} {ret : Option FieldType} {hh : List (Nat × Nat × Nat × Nat)}
    (hown : s.vm.findClass own = some m.cls) (hlink : (Cond.methodLink own index y).before args s = true) (hstat : (Cond.static y).before args s = true) (hinit : (Cond.initialized y.cls).before args s = true)
    (hcode : (Cond.codeWith y bytes maxL ret hh).before args s = true) (hy : y.cls ≠ "java/lang/invoke/MethodHandle" ∧ y.cls ≠ "java/lang/invoke/VarHandle")
    {W9 : Nat} {Pre : Pt → Array Value → Prop} {Post : Pt → Array Value → Option Value → Pt → Prop} (hK : Back l R p e below s args y 3 W9 Pre Post)
    {g : JFrame} (hg : g.method = m) (hsize : g.locals.size = c.maxLocals) {argsL rest : List Value} (hlen : ∀ sig, parseMethodDescriptor y.desc = some sig → argsL.length = sig.parameters.length)
    (hstack : g.stack = argsL.reverse ++ rest) (hW : 2 * g.monitorRoom + (rest.map fun v => v.category).sum ≤ W9) (hdg : decode c.code g.pc = .ok (.invokestatic index, 3))
    (hpre : ∀ vm₁, s.WarmedH vm₁ → Pre ⟨T.setVm vm₁, locs, cells, slots⟩ argsL.toArray) :
    ∃ (v : Option Value) (vm₁ : Vm) (B : Pt), s.WarmedH vm₁ ∧ Stand p l e R s m args below meth c B.U B.locs B.cells B.slots ∧ Post ⟨T.setVm vm₁, locs, cells, slots⟩ argsL.toArray v B ∧
      ∀ target, Steps p.tables e below (B.U.setTop { g with pc := g.pc + 3, stack := v.toList ++ rest }) target → Steps p.tables e below (T.setTop g) target := by
  obtain ⟨mk, methM, cM, hnamed, hmethM, -, -, -, -, -, -, hsigM⟩ := Cond.codeWith_spec hcode
  have hstatic : methM.isStatic = true := Cond.static_spec hnamed hmethM hstat
  obtain ⟨kP, hkP, -⟩ := className_of_methodNamed hnamed
  have hinitP : kP.init = .initialized := Cond.initialized_spec (findClass_of_methodNamed hnamed) hkP hinit
  obtain ⟨vm₁, X₁, hstep₁⟩ := X.invokestatic hexec hown hlink hnamed hmethM hstatic hkP hinitP hy (g := g) hg (argsL := argsL) (rest := rest) (hlen _ hsigM) hstack hdg
  obtain ⟨v, B, X', hpost, hsteps⟩ := hK m meth c ⟨T.setVm vm₁, locs, cells, slots⟩ { g with stack := rest } (.invokestatic index) mk argsL.toArray X₁ hg hsize hdg hW (X₁.named hnamed) (hpre vm₁ X₁.warmed)
  exact ⟨v, vm₁, B, X₁.warmed, X', hpost, fun target h => hstep₁ _ fun acts => by rw [doInvoke_state]; exact hsteps.trans h⟩
theorem vx_runSW {y : MethodName} {bytes cc : ByteArray} {maxL nL mc ms n index : Nat} {ret : Option FieldType} {hh : List (Nat × Nat × Nat × Nat)} {ws : List Cond} {rm : Room} {Pc : Array Value → State → Prop} {Qc : Array Value → State → Outcome → State → Prop} {free : Addr → Prop} {Ts : List Cond} {own : String} {As rest : List Value} {g : JFrame}
    (S : CallFix p m c cc nL s args Ts own) (hM : Met l y ws rm Pc Qc mc ms free) (cw : vx_CSW R s args own index y bytes maxL ret hh ws rm mc ms n) (hp : PreS s H Pc As)
    (hg : g.method = m) (hn : As.length = n) (hsize : g.locals.size = nL) (hstack : g.stack = As.reverse ++ rest) (hW : 2 * g.monitorRoom + (rest.map fun v => v.category).sum ≤ 8) (hdg : decode cc g.pc = .ok (.invokestatic index, 3)) (hf : cells + mc ≤ R.cells ∧ slots + ms ≤ R.slots) :
    va_Run p l e R s m args below meth c H locs cells slots mc ms g rest (Qc As.toArray) (free) := by
  obtain ⟨⟨hrc, hrs, hfr, hlo, hws, hcw⟩, hcode, hini, hy, hlen, hl, hstt⟩ := cw
  have hK : Back l R p e below s args y 3 8 (PreOf R mc ms Pc) (PostOf Qc mc ms free) := va_backW (hh := hh) (bytes := bytes) (maxL := maxL) (ret := ret) hM hp.1 hrc hrs hfr hlo hws hcw (fun a' U hW => word_at hW (Or.inl (by first | rfl | simp [Cond.onTables, Cond.keeps, Cond.steady])) hini)
  obtain ⟨hx, hb, hml, ho, -⟩ := S
  intro T hT X
  obtain ⟨v, vm₁, ⟨U', l2, c2, s2⟩, hW₁, X', ⟨g', mk, t, L, e1, e2, hq, h1, hL, h2, h3⟩, st⟩ := vx_callSW X hx (hh := hh) (bytes := bytes) (maxL := maxL) (ret := ret) ho hl hstt hini hcode hy hK hg (hsize.trans hml.symm) (argsL := As) (rest := rest) (fun sig h => hn.trans (hlen sig h)) hstack hW (by rw [hb]; exact hdg)
    (fun vm₁ hW₁ => ⟨hf.1, hf.2, hp.2 (T.setVm vm₁) hT hW₁⟩)
  dsimp only [Pt.U, Pt.locs, Pt.cells, Pt.slots] at X' e1 e2 h1 h2 h3 st
  subst h1; subst h2; subst h3
  exact ⟨v, (T.setVm vm₁).calling g' mk As.toArray, t, U', L, hT, X', hL, e1, e2, hq, st⟩
/-- a thing of a world lies in the heap -/
theorem vx_lt {D : va_G} {cl : List vw_C} {ws : va_W} {H1 : Heap} (h : va_P D cl ws H1) {k : Nat} {q : Nat × va_E} (hk : ws[k]? = some q) : q.1 < H1.size := (h k q hk).lt
end VXS
/-! ===== END ===== -/
end
section
/-! the classes whose objects the abstract heap holds -/
def cn_vault : String := "TapeVault"
def cf_vault : u_T := fun k => match k with
  | 0 => ("TapeVault", "tree", "LTapeVault$Tree;", true)
  | 1 => ("TapeVault", "volumes", "LTapeVault$Volumes;", true)
  | 2 => ("TapeVault", "writer", "LTapeVault$Writer;", true)
  | 3 => ("TapeVault", "copy", "LTapeVault$Restored;", true)
  | 4 => ("TapeVault", "dumps", "[LTapeVault$Dump;", true)
  | _ => ("TapeVault", "dumpCount", "I", false)
def cn_tree : String := "TapeVault$Tree"
def cf_tree : u_T := fun k => match k with
  | 0 => ("TapeVault$Tree", "nodes", "[LTapeVault$Node;", true)
  | 1 => ("TapeVault$Tree", "nodeCount", "I", false)
  | _ => ("TapeVault$Tree", "time", "I", false)
def cn_vols : String := "TapeVault$Volumes"
def cf_vols : u_T := fun k => match k with
  | 0 => ("TapeVault$Volumes", "words", "[J", false)
  | 1 => ("TapeVault$Volumes", "spoiled", "[B", false)
  | 2 => ("TapeVault$Volumes", "capacity", "I", false)
  | 3 => ("TapeVault$Volumes", "written", "I", false)
  | _ => ("TapeVault$Volumes", "filled", "I", false)
def cn_writ : String := "TapeVault$Writer"
def cf_writ : u_T := fun k => match k with
  | 0 => ("TapeVault$Writer", "tree", "LTapeVault$Tree;", true)
  | _ => ("TapeVault$Writer", "volumes", "LTapeVault$Volumes;", true)
def cn_rest : String := "TapeVault$Restored"
def cf_rest : u_T := fun k => match k with
  | 0 => ("TapeVault$Restored", "volumes", "LTapeVault$Volumes;", true)
  | 1 => ("TapeVault$Restored", "facts", "[I", true)
  | 2 => ("TapeVault$Restored", "missing", "[I", true)
  | 3 => ("TapeVault$Restored", "lost", "[Z", true)
  | 4 => ("TapeVault$Restored", "there", "Z", false)
  | 5 => ("TapeVault$Restored", "chainLength", "I", false)
  | 6 => ("TapeVault$Restored", "lostCount", "I", false)
  | _ => ("TapeVault$Restored", "readCount", "I", false)
def cn_node : String := "TapeVault$Node"
def cf_node : u_T := fun k => match k with
  | 0 => ("TapeVault$Node", "number", "I", true)
  | 1 => ("TapeVault$Node", "kind", "I", true)
  | 2 => ("TapeVault$Node", "parent", "LTapeVault$Node;", false)
  | 3 => ("TapeVault$Node", "name", "I", false)
  | 4 => ("TapeVault$Node", "size", "I", false)
  | 5 => ("TapeVault$Node", "stamp", "I", false)
  | 6 => ("TapeVault$Node", "octets", "[B", false)
  | 7 => ("TapeVault$Node", "firstEntry", "LTapeVault$Node;", false)
  | _ => ("TapeVault$Node", "nextEntry", "LTapeVault$Node;", false)
def cn_dump : String := "TapeVault$Dump"
def cf_dump : u_T := fun k => match k with
  | 0 => ("TapeVault$Dump", "number", "I", true)
  | 1 => ("TapeVault$Dump", "level", "I", true)
  | 2 => ("TapeVault$Dump", "time", "I", true)
  | 3 => ("TapeVault$Dump", "base", "LTapeVault$Dump;", true)
  | 4 => ("TapeVault$Dump", "chainLength", "I", true)
  | 5 => ("TapeVault$Dump", "changed", "I", false)
  | 6 => ("TapeVault$Dump", "first", "I", false)
  | _ => ("TapeVault$Dump", "blocks", "I", false)
def cn_modl : String := "TapeVaultModel"
def cf_modl : u_T := fun k => match k with
  | 0 => ("TapeVaultModel", "err", "I", false)
  | 1 => ("TapeVaultModel", "kind", "[I", true)
  | 2 => ("TapeVaultModel", "parent", "[I", true)
  | 3 => ("TapeVaultModel", "name", "[I", true)
  | 4 => ("TapeVaultModel", "size", "[I", true)
  | 5 => ("TapeVaultModel", "stamp", "[I", true)
  | 6 => ("TapeVaultModel", "data", "[[B", true)
  | 7 => ("TapeVaultModel", "time", "I", false)
  | 8 => ("TapeVaultModel", "volume", "I", false)
  | 9 => ("TapeVaultModel", "written", "I", false)
  | 10 => ("TapeVaultModel", "level", "[I", true)
  | 11 => ("TapeVaultModel", "when", "[I", true)
  | 12 => ("TapeVaultModel", "base", "[I", true)
  | 13 => ("TapeVaultModel", "firstBlock", "[I", true)
  | 14 => ("TapeVaultModel", "firstRecord", "[I", true)
  | 15 => ("TapeVaultModel", "there", "[[Z", true)
  | 16 => ("TapeVaultModel", "dumps", "I", false)
  | 17 => ("TapeVaultModel", "rNode", "[I", true)
  | 18 => ("TapeVaultModel", "rKind", "[I", true)
  | 19 => ("TapeVaultModel", "rName", "[I", true)
  | 20 => ("TapeVaultModel", "rParent", "[I", true)
  | 21 => ("TapeVaultModel", "rSize", "[I", true)
  | 22 => ("TapeVaultModel", "rStamp", "[I", true)
  | 23 => ("TapeVaultModel", "rFrom", "[I", true)
  | 24 => ("TapeVaultModel", "octets", "[B", true)
  | 25 => ("TapeVaultModel", "entryName", "[I", true)
  | 26 => ("TapeVaultModel", "entryNode", "[I", true)
  | 27 => ("TapeVaultModel", "records", "I", false)
  | 28 => ("TapeVaultModel", "octetMany", "I", false)
  | 29 => ("TapeVaultModel", "entryMany", "I", false)
  | 30 => ("TapeVaultModel", "spoiled", "[Z", true)
  | 31 => ("TapeVaultModel", "label", "[Z", true)
  | 32 => ("TapeVaultModel", "xKind", "[I", true)
  | 33 => ("TapeVaultModel", "xParent", "[I", true)
  | 34 => ("TapeVaultModel", "xName", "[I", true)
  | 35 => ("TapeVaultModel", "xSize", "[I", true)
  | 36 => ("TapeVaultModel", "xStamp", "[I", true)
  | 37 => ("TapeVaultModel", "xEntries", "[I", true)
  | 38 => ("TapeVaultModel", "lost", "[Z", true)
  | 39 => ("TapeVaultModel", "xData", "[[B", true)
  | 40 => ("TapeVaultModel", "xEntryName", "[[I", true)
  | 41 => ("TapeVaultModel", "xEntryNode", "[[I", true)
  | 42 => ("TapeVaultModel", "restored", "Z", false)
  | 43 => ("TapeVaultModel", "chain", "I", false)
  | 44 => ("TapeVaultModel", "lostMany", "I", false)
  | 45 => ("TapeVaultModel", "read", "I", false)
  | 46 => ("TapeVaultModel", "block", "[I", true)
  | _ => ("TapeVaultModel", "filled", "I", false)
def vcl : List vw_C := [(cn_vault, cf_vault, 6), (cn_tree, cf_tree, 3), (cn_vols, cf_vols, 5), (cn_writ, cf_writ, 2), (cn_rest, cf_rest, 8), (cn_node, cf_node, 9), (cn_dump, cf_dump, 8), (cn_modl, cf_modl, 48)]
/-- the type of a field -/
def fty (T : u_T) (k : Nat) : FieldType := (parseFieldDescriptor (T k).2.2.1).getD .int
theorem vcl_ty : ∀ q ∈ vcl, ∀ k, k < q.2.2 → parseFieldDescriptor (q.2.1 k).2.2.1 = some (fty q.2.1 k) := by decide +kernel
theorem vcl_nm : ∀ q ∈ vcl, ∀ a, a < q.2.2 → ∀ b, b < q.2.2 → a ≠ b → (q.2.1 a).2.1 ≠ (q.2.1 b).2.1 := by decide +kernel
theorem vcl_own : ∀ q ∈ vcl, ∀ k, k < q.2.2 → (q.2.1 k).1 = q.1 := by decide +kernel
/-- words that stay true as the tables warm -/
def wk (w : Cond) : Bool := match w with
  | .fieldLinkNest .. => true
  | .methodLinkNest .. => true
  | .declares _ => true
  | .castable .. => true
  | .arrayOver (.object _) => true
  | w => goodWord w
theorem wk_warm {w : Cond} (hw : wk w = true) {s U : State} (hW : s.WarmedH U.vm) (h : w.before #[] s = true) : w.before #[] U = true := by
  cases w with
  | fieldLinkNest a i b n d q => exact va_Nw.warmF hW h
  | methodLinkNest a i x q => exact va_Nw.warmM hW h
  | declares x => exact va_Nw.warmD hW h
  | castable a b => exact va_Nw.warmC hW h
  | arrayOver ty =>
    cases ty with
    | object C => exact va_AO.moved hW.alike h
    | _ => exact absurd hw (by simp [wk, goodWord, Cond.onTables])
  | _ => exact word_at hW (good_of_word hw) h
theorem wk_any {w : Cond} (hw : wk w = true) {s : State} {A : Array Value} (h : w.before #[] s = true) : w.before A s = true := by
  cases w with
  | fieldLinkNest a i b n d q => exact va_tabs rfl rfl h
  | methodLinkNest a i x q => exact va_tabs rfl rfl h
  | declares x => exact va_tabs rfl rfl h
  | castable a b => exact va_tabs rfl rfl h
  | arrayOver ty => exact h
  | _ => exact word_at (State.WarmedH.refl s) (good_of_word hw) h
/-! abstract heaps: the next address, the slots laid so far, the cells that are known -/
abbrev AO : Type := (FieldType × Nat × (Nat → Value)) ⊕ (Nat × List Value)
abbrev AH : Type := Nat × Nat × (Nat → Option AO)
def hput (h : AH) (a : Nat) (o : AO) : AH := (h.1, h.2.1, va_up h.2.2 a (some o))
def hnew (h : AH) (o : AO) (k : Nat) : AH := (h.1 + 1, h.2.1 + k, va_up h.2.2 h.1 (some o))
def hskip (h : AH) (k : Nat) : AH := (h.1 + 1, h.2.1 + k, h.2.2)
/-- the array types that are made -/
def atys : List FieldType := [.int, .long, .byte, .boolean, .object "TapeVault$Node", .object "TapeVault$Dump", .array .byte, .array .boolean, .array .int]
/-- what is thrown, and the pairs of which one isn't the other -/
def exn : List String := ["java/lang/IllegalArgumentException", "java/lang/IllegalStateException", "java/lang/IndexOutOfBoundsException", "java/lang/UnsupportedOperationException"]
/-- what the tables say, at any state of the run -/
def Wd (D : va_G) (dA : FieldType → ClassId) (U : State) : Prop :=
  (∀ w ∈ lw_tbl, wk w = true → w.before #[] U = true) ∧ va_K D vcl [] U ∧ (∀ ty ∈ atys, ArrOfT U (dA ty) ty ∧ va_RA U (dA ty) ty) ∧
  (∀ a ∈ exn, ∀ b ∈ exn, a ≠ b → va_Nc a b U) ∧ (∀ ty ∈ ([.byte, .boolean, .int] : List FieldType), ∃ kA : Class, U.vm.classes[dA (.array ty)]? = some kA ∧ kA.kind = .array (dA ty) (.array ty))
theorem Wd.warm {D : va_G} {dA : FieldType → ClassId} {s U : State} (hW : s.WarmedH U.vm) (h : Wd D dA s) : Wd D dA U := by
  obtain ⟨h1, h2, h3, h4, h5⟩ := h
  refine ⟨fun w hw hk => wk_warm hk hW (h1 w hw hk), va_K.moved hW.alike h2, fun ty ht => ⟨arrOfT_moved hW.alike (h3 ty ht).1, va_RA.moved hW.alike (h3 ty ht).2⟩, fun a ha b hb hn => va_Nc.moved hW.alike (h4 a ha b hb hn), fun ty ht => ?_⟩
  obtain ⟨kA, e1, e2⟩ := h5 ty ht
  obtain ⟨k', hk', he⟩ := hW.alike.2.2 _ _ e1
  exact ⟨k', hk', by rw [he]; exact e2⟩
theorem Wd.word {D : va_G} {dA : FieldType → ClassId} {s : State} (h : Wd D dA s) {w : Cond} (hw : w ∈ lw_tbl) (hk : wk w = true) {A : Array Value} : w.before A s = true := wk_any hk (h.1 w hw hk)
/-- what lies below the run's own cells: the script, and what a throw reads -/
def Hw (base b L : Nat) (xs : Nat → Int32) (U : State) (H : Heap) : Prop :=
  vx_Zq Bundle.tN "UNASSIGNED_STACK" Bundle.steD (fun q => base ≤ q) U H ∧ vx_Zq Bundle.tN "SUPPRESSED_SENTINEL" Bundle.listD (fun q => base ≤ q) U H ∧ va_X b L xs U H ∧ b < base ∧ base ≤ H.size
theorem Hw.moved {base b L : Nat} {xs : Nat → Int32} {u U : State} {H : Heap} (hvm : u.vm.Alike U.vm) (h : Hw base b L xs u H) : Hw base b L xs U H :=
  ⟨vx_Zq.moved hvm h.1, vx_Zq.moved hvm h.2.1, va_X.moved hvm h.2.2.1, h.2.2.2⟩
theorem Hw.kept {base b L : Nat} {xs : Nat → Int32} {U : State} {H H1 : Heap} (h : Hw base b L xs U H) (hq : ∀ a : Nat, a < H.size → ¬ base ≤ a → H1[a]? = H[a]?) (hz : H.size ≤ H1.size) : Hw base b L xs U H1 :=
  ⟨vx_Zq.kept h.1 hq, vx_Zq.kept h.2.1 hq, va_X.kept h.2.2.1 (hq b (Nat.lt_of_lt_of_le h.2.2.2.1 h.2.2.2.2) (Nat.not_le.mpr h.2.2.2.1)), h.2.2.2.1, Nat.le_trans h.2.2.2.2 hz⟩
/-- one known cell -/
def oat (D : va_G) (dA : FieldType → ClassId) (a : Nat) (o : AO) (H : Heap) : Prop := match o with
  | .inl (ty, n, f) => ty ∈ atys ∧ H[a]? = some (arrV (dA ty) n f)
  | .inr (ci, fs) => ∃ r : vw_C, vcl[ci]? = some r ∧ fs.length = r.2.2 ∧ t_OB a (D.1 ci) r.2.2 (D.2 ci) H (vp_V fs)
theorem oat.kept {D : va_G} {dA : FieldType → ClassId} {a : Nat} {o : AO} {H H1 : Heap} (h : oat D dA a o H) (hq : H1[a]? = H[a]?) : oat D dA a o H1 := by
  match o, h with
  | .inl (ty, n, f), h => exact ⟨h.1, by rw [hq]; exact h.2⟩
  | .inr (ci, fs), h =>
    obtain ⟨r, h1, h2, h3⟩ := h
    exact ⟨r, h1, h2, h3.kept hq⟩
theorem oat.lt {D : va_G} {dA : FieldType → ClassId} {a : Nat} {o : AO} {H : Heap} (h : oat D dA a o H) : a < H.size := by
  match o, h with
  | .inl (ty, n, f), h => exact (Array.getElem?_eq_some_iff.mp h.2).1
  | .inr (ci, fs), h =>
    obtain ⟨r, h1, h2, cell, h3, -⟩ := h
    exact (Array.getElem?_eq_some_iff.mp h3).1
/-- the machine's heap holds the abstract one -/
def Rp (D : va_G) (dA : FieldType → ClassId) (base : Nat) (h : AH) (H : Heap) : Prop :=
  H.size = h.1 ∧ base ≤ h.1 ∧ ∀ (a : Nat) (o : AO), h.2.2 a = some o → base ≤ a ∧ oat D dA a o H
theorem Rp.put {D : va_G} {dA : FieldType → ClassId} {base : Nat} {h : AH} {H H1 : Heap} (hR : Rp D dA base h H) {a : Nat} {o : AO} (hb : base ≤ a) (ho : oat D dA a o H1) (hz : H1.size = H.size) (hq : ∀ q, q ≠ a → H1[q]? = H[q]?) : Rp D dA base (hput h a o) H1 := by
  refine ⟨hz.trans hR.1, hR.2.1, fun q x hx => ?_⟩
  by_cases e : q = a
  · subst e
    have : (va_up h.2.2 q (some o)) q = some x := hx
    rw [va_up_self] at this
    cases this
    exact ⟨hb, ho⟩
  · have h2 : (va_up h.2.2 a (some o)) q = some x := hx
    rw [va_up_ne _ _ e] at h2
    exact ⟨(hR.2.2 q x h2).1, (hR.2.2 q x h2).2.kept (hq q e)⟩
theorem Rp.new {D : va_G} {dA : FieldType → ClassId} {base : Nat} {h : AH} {H H1 : Heap} (hR : Rp D dA base h H) {o : AO} {k : Nat} (ho : oat D dA h.1 o H1) (hz : H1.size = h.1 + 1) (hq : ∀ q, q < h.1 → H1[q]? = H[q]?) : Rp D dA base (hnew h o k) H1 := by
  refine ⟨hz, Nat.le_succ_of_le hR.2.1, fun q x hx => ?_⟩
  by_cases e : q = h.1
  · subst e
    have : (va_up h.2.2 h.1 (some o)) h.1 = some x := hx
    rw [va_up_self] at this
    cases this
    exact ⟨hR.2.1, ho⟩
  · have h2 : (va_up h.2.2 h.1 (some o)) q = some x := hx
    rw [va_up_ne _ _ e] at h2
    have h3 := hR.2.2 q x h2
    exact ⟨h3.1, h3.2.kept (hq q (by rw [← hR.1]; exact h3.2.lt))⟩
theorem Rp.skip {D : va_G} {dA : FieldType → ClassId} {base : Nat} {h : AH} {H H1 : Heap} (hR : Rp D dA base h H) {k : Nat} (hz : H1.size = h.1 + 1) (hq : ∀ q, q < h.1 → H1[q]? = H[q]?) : Rp D dA base (hskip h k) H1 :=
  ⟨hz, Nat.le_succ_of_le hR.2.1, fun q x hx => ⟨(hR.2.2 q x hx).1, (hR.2.2 q x hx).2.kept (hq q (by rw [← hR.1]; exact (hR.2.2 q x hx).2.lt))⟩⟩
/-! locals by their places -/
def la (lv : List (Option Value)) : List (Nat × Value) := (List.range lv.length).filterMap fun i => (lv.getD i none).map fun v => (i, v)
theorem mem_la {lv : List (Option Value)} {i : Nat} {v : Value} : (i, v) ∈ la lv ↔ lv[i]? = some (some v) := by
  simp only [la, List.mem_filterMap, List.mem_range, Option.map_eq_some_iff, Prod.mk.injEq]
  constructor
  · rintro ⟨j, hj, w, hw, rfl, rfl⟩
    rw [List.getD_eq_getElem?_getD] at hw
    rw [List.getElem?_eq_getElem hj] at hw ⊢
    simpa using hw
  · intro h
    have hi : i < lv.length := (List.getElem?_eq_some_iff.mp h).1
    exact ⟨i, hi, v, by rw [List.getD_eq_getElem?_getD, h]; rfl, rfl, rfl⟩
def LV (ls : Array Slot) (nL : Nat) (lv : List (Option Value)) : Prop := lv.length = nL ∧ lv_has ls nL (la lv)
theorem LV.get {ls : Array Slot} {nL : Nat} {lv : List (Option Value)} (h : LV ls nL lv) {i : Nat} {v : Value} (hi : lv[i]? = some (some v)) : ls[i]? = some (.val v) := h.2.2.2 (i, v) (mem_la.mpr hi)
theorem lv_less {ls : Array Slot} {nL : Nat} {l l' : List (Nat × Value)} (h : lv_has ls nL l) (hl : ∀ q ∈ l', q ∈ l) : lv_has ls nL l' := ⟨h.1, h.2.1, fun q hq => h.2.2 q (hl q hq)⟩
/-- the place before is cleared where it held a long -/
def lvc (lv : List (Option Value)) (i : Nat) : List (Option Value) := match i with
  | 0 => lv
  | j + 1 => match lv[j]? with
    | some (some (.long _)) => lv.set j none
    | some (some (.double _)) => lv.set j none
    | _ => lv
def lv1 (lv : List (Option Value)) (i : Nat) (v : Value) : List (Option Value) := (lvc lv i).set i (some v)
def lv2 (lv : List (Option Value)) (i : Nat) (v : Value) : List (Option Value) := ((lvc lv i).set i (some v)).set (i + 1) none
theorem lvc_len (lv : List (Option Value)) (i : Nat) : (lvc lv i).length = lv.length := by
  unfold lvc
  split
  · rfl
  · split <;> simp
theorem lvc_get {lv : List (Option Value)} {i j : Nat} {w : Value} (h : (lvc lv i)[j]? = some (some w)) : lv[j]? = some (some w) ∧ ¬ (j + 1 = i ∧ w.category = 2) := by
  unfold lvc at h
  split at h
  · exact ⟨h, fun e => by omega⟩
  · rename_i k
    split at h
    · rename_i x hx
      rw [List.getElem?_set] at h
      by_cases e : k = j
      · subst e
        simp at h
      · rw [if_neg e] at h
        exact ⟨h, fun q => e (by omega)⟩
    · rename_i x hx
      rw [List.getElem?_set] at h
      by_cases e : k = j
      · subst e
        simp at h
      · rw [if_neg e] at h
        exact ⟨h, fun q => e (by omega)⟩
    · rename_i n1 n2
      refine ⟨h, fun q => ?_⟩
      have e : j = k := by omega
      subst e
      cases w <;> simp [Value.category] at q
      · exact n1 _ h
      · exact n2 _ h
theorem LV.set1 {ls : Array Slot} {nL : Nat} {lv : List (Option Value)} {i : Nat} {v : Value} (h : LV ls nL lv) (hi : i < nL) (hc : v.category = 1) : ∃ ls', storeLocals ls i v = some ls' ∧ LV ls' nL (lv1 lv i v) := by
  obtain ⟨ls', e, h'⟩ := lv_store1 h.2 hi hc
  refine ⟨ls', e, by simp [lv1, lvc_len, h.1], lv_less h' fun q hq => ?_⟩
  obtain ⟨j, w⟩ := q
  have hq := mem_la.mp hq
  unfold lv1 at hq
  rw [List.getElem?_set] at hq
  by_cases e2 : i = j
  · subst e2
    rw [if_pos rfl, if_pos (by rw [lvc_len, h.1]; exact hi)] at hq
    cases hq
    exact List.mem_cons_self
  · rw [if_neg e2] at hq
    obtain ⟨q1, q2⟩ := lvc_get hq
    refine List.mem_cons_of_mem _ (List.mem_filter.mpr ⟨mem_la.mpr q1, ?_⟩)
    simp only [Bool.and_eq_true, Bool.not_eq_true', beq_eq_false_iff_ne, ne_eq]
    exact ⟨fun x => e2 x.symm, by
      cases hz : (j + 1 == i && w.category == 2)
      · rfl
      · simp only [Bool.and_eq_true, beq_iff_eq] at hz
        exact absurd hz q2⟩
theorem LV.set2 {ls : Array Slot} {nL : Nat} {lv : List (Option Value)} {i : Nat} {v : Value} (h : LV ls nL lv) (hi : i + 1 < nL) (hc : v.category = 2) : ∃ ls', storeLocals ls i v = some ls' ∧ LV ls' nL (lv2 lv i v) := by
  obtain ⟨ls', e, h'⟩ := lv_store2 h.2 hi hc
  refine ⟨ls', e, by simp [lv2, lvc_len, h.1], lv_less h' fun q hq => ?_⟩
  obtain ⟨j, w⟩ := q
  have hq := mem_la.mp hq
  unfold lv2 at hq
  rw [List.getElem?_set] at hq
  by_cases e3 : i + 1 = j
  · subst e3
    rw [if_pos rfl] at hq
    split at hq <;> cases hq
  rw [if_neg e3, List.getElem?_set] at hq
  by_cases e2 : i = j
  · subst e2
    rw [if_pos rfl, if_pos (by rw [lvc_len, h.1]; omega)] at hq
    cases hq
    exact List.mem_cons_self
  · rw [if_neg e2] at hq
    obtain ⟨q1, q2⟩ := lvc_get hq
    refine List.mem_cons_of_mem _ (List.mem_filter.mpr ⟨mem_la.mpr q1, ?_⟩)
    simp only [Bool.and_eq_true, Bool.not_eq_true', beq_eq_false_iff_ne, ne_eq]
    exact ⟨fun x => e2 x.symm, fun x => e3 x.symm, by
      cases hz : (j + 1 == i && w.category == 2)
      · rfl
      · simp only [Bool.and_eq_true, beq_iff_eq] at hz
        exact absurd hz q2⟩
end
section
/-! the types of the fields, class by class; the constants; the links of fields -/
def vty : List (List FieldType) := [[.object "TapeVault$Tree", .object "TapeVault$Volumes", .object "TapeVault$Writer", .object "TapeVault$Restored", .array (.object "TapeVault$Dump"), .int],
  [.array (.object "TapeVault$Node"), .int, .int],
  [.array (.long), .array (.byte), .int, .int, .int],
  [.object "TapeVault$Tree", .object "TapeVault$Volumes"],
  [.object "TapeVault$Volumes", .array (.int), .array (.int), .array (.boolean), .boolean, .int, .int, .int],
  [.int, .int, .object "TapeVault$Node", .int, .int, .int, .array (.byte), .object "TapeVault$Node", .object "TapeVault$Node"],
  [.int, .int, .int, .object "TapeVault$Dump", .int, .int, .int, .int],
  [.int, .array (.int), .array (.int), .array (.int), .array (.int), .array (.int), .array (.array (.byte)), .int, .int, .int, .array (.int), .array (.int), .array (.int), .array (.int), .array (.int), .array (.array (.boolean)), .int, .array (.int), .array (.int), .array (.int), .array (.int), .array (.int), .array (.int), .array (.int), .array (.byte), .array (.int), .array (.int), .int, .int, .int, .array (.boolean), .array (.boolean), .array (.int), .array (.int), .array (.int), .array (.int), .array (.int), .array (.int), .array (.boolean), .array (.array (.byte)), .array (.array (.int)), .array (.array (.int)), .boolean, .int, .int, .int, .array (.int), .int]]
theorem vty_ok : ∀ ci, ci < 8 → ∃ q ts, vcl[ci]? = some q ∧ vty[ci]? = some ts ∧ ts.length = q.2.2 ∧ ∀ k, k < q.2.2 → ts[k]? = some (fty q.2.1 k) := by
  intro ci hci
  have key : ∀ ci, ci < 8 → (match vcl[ci]?, vty[ci]? with | some q, some ts => decide (ts.length = q.2.2) && (List.range q.2.2).all (fun k => decide (ts[k]? = some (fty q.2.1 k))) | _, _ => false) = true := by decide +kernel
  have h := key ci hci
  split at h
  · rename_i q ts h1 h2
    simp only [Bool.and_eq_true, decide_eq_true_eq, List.all_eq_true, List.mem_range] at h
    exact ⟨q, ts, h1, h2, h.1, h.2⟩
  · cases h
def KI : List (String × Nat × Int32 × Nat) := [("TapeVaultModel", 71, 256000, 835), ("TapeVaultModel", 76, 84000, 836)]
def KJ : List (String × Nat × Int64 × Nat) := [("TapeVault$Volumes", 62, 255, 720), ("TapeVaultLaw", 85, 4294967295, 1121)]
theorem KI_ok : ∀ q ∈ KI, lw_tbl[q.2.2.2]? = some (.constant q.1 q.2.1 q.2.2.1) := by decide +kernel
theorem KJ_ok : ∀ q ∈ KJ, lw_tbl[q.2.2.2]? = some (.constantLong q.1 q.2.1 q.2.2.1) := by decide +kernel
def FT : List (String × Nat × Nat × Nat × Bool × Nat) := [("TapeVault$Tree", 11, 1, 0, false, 77),
  ("TapeVault$Tree", 20, 1, 1, false, 78),
  ("TapeVault", 208, 1, 1, true, 79),
  ("TapeVault$Tree", 24, 1, 2, false, 80),
  ("TapeVault", 124, 1, 2, true, 81),
  ("TapeVault$Volumes", 9, 2, 0, false, 95),
  ("TapeVault$Volumes", 15, 2, 1, false, 96),
  ("TapeVault$Volumes", 19, 2, 2, false, 97),
  ("TapeVault$Volumes", 29, 2, 3, false, 98),
  ("TapeVault", 214, 2, 3, true, 99),
  ("TapeVault$Volumes", 32, 2, 4, false, 100),
  ("TapeVault", 144, 2, 4, true, 101),
  ("TapeVault$Writer", 9, 3, 0, false, 121),
  ("TapeVault$Writer", 15, 3, 1, false, 122),
  ("TapeVault$Restored", 22, 4, 0, false, 134),
  ("TapeVault$Restored", 9, 4, 1, false, 135),
  ("TapeVault$Restored", 15, 4, 2, false, 136),
  ("TapeVault$Restored", 18, 4, 3, false, 137),
  ("TapeVault$Restored", 26, 4, 4, false, 138),
  ("TapeVault$Restored", 30, 4, 5, false, 139),
  ("TapeVault", 217, 4, 5, true, 140),
  ("TapeVault$Restored", 34, 4, 6, false, 141),
  ("TapeVault", 220, 4, 6, true, 142),
  ("TapeVault$Restored", 37, 4, 7, false, 143),
  ("TapeVault", 223, 4, 7, true, 144),
  ("TapeVault$Node", 9, 5, 0, false, 179),
  ("TapeVault$Writer", 92, 5, 0, true, 180),
  ("TapeVault$Tree", 56, 5, 0, true, 181),
  ("TapeVault$Node", 15, 5, 1, false, 182),
  ("TapeVault$Tree", 35, 5, 1, true, 183),
  ("TapeVault$Writer", 93, 5, 1, true, 184),
  ("TapeVault", 114, 5, 1, true, 185),
  ("TapeVault$Node", 18, 5, 2, false, 186),
  ("TapeVault$Tree", 59, 5, 2, true, 187),
  ("TapeVault$Node", 25, 5, 3, false, 188),
  ("TapeVault$Writer", 96, 5, 3, true, 189),
  ("TapeVault$Tree", 77, 5, 3, true, 190),
  ("TapeVault", 84, 5, 4, true, 191),
  ("TapeVault$Writer", 102, 5, 4, true, 192),
  ("TapeVault$Node", 35, 5, 4, false, 193),
  ("TapeVault$Tree", 49, 5, 4, true, 194),
  ("TapeVault$Writer", 105, 5, 5, true, 195),
  ("TapeVault$Tree", 42, 5, 5, true, 196),
  ("TapeVault$Node", 31, 5, 6, false, 197),
  ("TapeVault$Node", 22, 5, 7, false, 198),
  ("TapeVault$Writer", 112, 5, 7, true, 199),
  ("TapeVault$Node", 28, 5, 8, false, 200),
  ("TapeVault$Writer", 116, 5, 8, true, 201),
  ("TapeVault", 10, 0, 0, false, 236),
  ("TapeVault", 19, 0, 1, false, 237),
  ("TapeVault", 28, 0, 2, false, 238),
  ("TapeVault", 37, 0, 3, false, 239),
  ("TapeVault", 43, 0, 4, false, 240),
  ("TapeVault", 121, 0, 5, false, 241),
  ("TapeVault$Dump", 9, 6, 0, false, 498),
  ("TapeVault$Writer", 64, 6, 0, true, 499),
  ("TapeVault", 166, 6, 0, true, 500),
  ("TapeVault$Dump", 15, 6, 1, false, 501),
  ("TapeVault$Writer", 60, 6, 1, true, 502),
  ("TapeVault", 232, 6, 1, true, 503),
  ("TapeVault$Dump", 18, 6, 2, false, 504),
  ("TapeVault$Writer", 67, 6, 2, true, 505),
  ("TapeVault$Dump", 21, 6, 3, false, 506),
  ("TapeVault$Writer", 70, 6, 3, true, 507),
  ("TapeVault$Dump", 25, 6, 4, false, 508),
  ("TapeVault$Restored", 47, 6, 4, true, 509),
  ("TapeVault$Writer", 74, 6, 5, true, 510),
  ("TapeVault$Dump", 31, 6, 5, false, 511),
  ("TapeVault$Restored", 95, 6, 5, true, 512),
  ("TapeVault", 141, 6, 5, true, 513),
  ("TapeVault$Dump", 28, 6, 6, false, 514),
  ("TapeVault$Restored", 76, 6, 6, true, 515),
  ("TapeVault", 147, 6, 6, true, 516),
  ("TapeVault$Restored", 85, 6, 7, true, 517),
  ("TapeVault", 156, 6, 7, true, 518),
  ("TapeVaultModel", 129, 7, 0, false, 847),
  ("TapeVaultModel", 9, 7, 1, false, 848),
  ("TapeVaultModel", 13, 7, 2, false, 849),
  ("TapeVaultModel", 16, 7, 3, false, 850),
  ("TapeVaultModel", 19, 7, 4, false, 851),
  ("TapeVaultModel", 22, 7, 5, false, 852),
  ("TapeVaultModel", 27, 7, 6, false, 853),
  ("TapeVaultModel", 137, 7, 7, false, 854),
  ("TapeVaultModel", 140, 7, 8, false, 855),
  ("TapeVaultModel", 143, 7, 9, false, 856),
  ("TapeVaultModel", 30, 7, 10, false, 857),
  ("TapeVaultModel", 33, 7, 11, false, 858),
  ("TapeVaultModel", 36, 7, 12, false, 859),
  ("TapeVaultModel", 39, 7, 13, false, 860),
  ("TapeVaultModel", 42, 7, 14, false, 861),
  ("TapeVaultModel", 47, 7, 15, false, 862),
  ("TapeVaultModel", 146, 7, 16, false, 863),
  ("TapeVaultModel", 50, 7, 17, false, 864),
  ("TapeVaultModel", 53, 7, 18, false, 865),
  ("TapeVaultModel", 56, 7, 19, false, 866),
  ("TapeVaultModel", 59, 7, 20, false, 867),
  ("TapeVaultModel", 62, 7, 21, false, 868),
  ("TapeVaultModel", 65, 7, 22, false, 869),
  ("TapeVaultModel", 68, 7, 23, false, 870),
  ("TapeVaultModel", 72, 7, 24, false, 871),
  ("TapeVaultModel", 77, 7, 25, false, 872),
  ("TapeVaultModel", 80, 7, 26, false, 873),
  ("TapeVaultModel", 149, 7, 27, false, 874),
  ("TapeVaultModel", 152, 7, 28, false, 875),
  ("TapeVaultModel", 155, 7, 29, false, 876),
  ("TapeVaultModel", 83, 7, 30, false, 877),
  ("TapeVaultModel", 87, 7, 31, false, 878),
  ("TapeVaultModel", 90, 7, 32, false, 879),
  ("TapeVaultModel", 93, 7, 33, false, 880),
  ("TapeVaultModel", 96, 7, 34, false, 881),
  ("TapeVaultModel", 99, 7, 35, false, 882),
  ("TapeVaultModel", 102, 7, 36, false, 883),
  ("TapeVaultModel", 105, 7, 37, false, 884),
  ("TapeVaultModel", 108, 7, 38, false, 885),
  ("TapeVaultModel", 111, 7, 39, false, 886),
  ("TapeVaultModel", 116, 7, 40, false, 887),
  ("TapeVaultModel", 119, 7, 41, false, 888),
  ("TapeVaultModel", 158, 7, 42, false, 889),
  ("TapeVaultModel", 162, 7, 43, false, 890),
  ("TapeVaultModel", 165, 7, 44, false, 891),
  ("TapeVaultModel", 168, 7, 45, false, 892),
  ("TapeVaultModel", 122, 7, 46, false, 893),
  ("TapeVaultModel", 206, 7, 47, false, 894)]
/-- the word of a field's link -/
def ftw (r : String × Nat × Nat × Nat × Bool × Nat) (q : vw_C) : Cond := bif r.2.2.2.2.1 then .fieldLinkNest r.1 r.2.1 q.1 (q.2.1 r.2.2.2.1).2.1 (q.2.1 r.2.2.2.1).2.2.1 "TapeVault" else .fieldLink r.1 r.2.1 q.1 (q.2.1 r.2.2.2.1).2.1 (q.2.1 r.2.2.2.1).2.2.1
def ftok (r : String × Nat × Nat × Nat × Bool × Nat) : Bool := match vcl[r.2.2.1]? with
  | some q => decide (r.2.2.2.1 < q.2.2) && decide (lw_tbl[r.2.2.2.2.2]? = some (ftw r q))
  | none => false
theorem FT_ok : FT.all ftok = true := by decide +kernel
/-- the words that say how an object lies -/
theorem vcl_in : ∀ q ∈ vcl, ∀ w ∈ u_ws q.1 q.2.1 q.2.2, w ∈ lw_tbl := by decide +kernel
theorem vcl_inst : ∀ q ∈ vcl, Cond.instantiable q.1 q.2.2 ∈ lw_tbl ∧ Cond.initialized q.1 ∈ lw_tbl := by decide +kernel
end
section
/-! one step of a method's frame: what it pops, what it pushes, what it does to the abstract heap -/
abbrev EN : Type := Nat × Instr × Nat × List Nat
abbrev MI : Type := MethodName × ByteArray × Nat × Option FieldType × List (Nat × Nat × Nat × Nat) × List EN
abbrev SR : Type := Nat × List (Option Value) × List Value × AH
def pI (st : List Value) (f : Int32 → List Value → Option SR) : Option SR := match st with
  | .int x :: r => f x r
  | _ => none
def pJ (st : List Value) (f : Int64 → List Value → Option SR) : Option SR := match st with
  | .long x :: r => f x r
  | _ => none
def pR (st : List Value) (f : Nat → List Value → Option SR) : Option SR := match st with
  | .ref x :: r => f x r
  | _ => none
def pQ (st : List Value) (f : Option Nat → List Value → Option SR) : Option SR := match st with
  | .ref x :: r => f (some x) r
  | .null :: r => f none r
  | _ => none
/-- a value of one slot -/
def p1 (st : List Value) (f : Value → List Value → Option SR) : Option SR := match st with
  | .int x :: r => f (.int x) r
  | .ref x :: r => f (.ref x) r
  | .null :: r => f .null r
  | _ => none
def gI (lv : List (Option Value)) (i : Nat) (f : Int32 → Option SR) : Option SR := match lv[i]? with
  | some (some (.int x)) => f x
  | _ => none
def gJ (lv : List (Option Value)) (i : Nat) (f : Int64 → Option SR) : Option SR := match lv[i]? with
  | some (some (.long x)) => f x
  | _ => none
def gQ (lv : List (Option Value)) (i : Nat) (f : Option Nat → Option SR) : Option SR := match lv[i]? with
  | some (some (.ref x)) => f (some x)
  | some (some .null) => f none
  | _ => none
/-- a value that a field of the type takes -/
def fitv (ty : FieldType) (v : Value) : Bool := match ty, v with
  | .int, .int _ => true
  | .boolean, .int x => x == 0 || x == 1
  | .object _, .ref _ => true
  | .object _, .null => true
  | .array _, .ref _ => true
  | .array _, .null => true
  | _, _ => false
def bI (i : Int32) (n : Nat) (z : Option SR) : Option SR := if i < 0 ∨ n ≤ i.toNatClampNeg then none else z
theorem pI_inv {st : List Value} {f : Int32 → List Value → Option SR} {z : SR} (h : pI st f = some z) : ∃ x r, st = .int x :: r ∧ f x r = some z := by
  unfold pI at h
  split at h
  · exact ⟨_, _, rfl, h⟩
  · cases h
theorem pJ_inv {st : List Value} {f : Int64 → List Value → Option SR} {z : SR} (h : pJ st f = some z) : ∃ x r, st = .long x :: r ∧ f x r = some z := by
  unfold pJ at h
  split at h
  · exact ⟨_, _, rfl, h⟩
  · cases h
theorem pR_inv {st : List Value} {f : Nat → List Value → Option SR} {z : SR} (h : pR st f = some z) : ∃ x r, st = .ref x :: r ∧ f x r = some z := by
  unfold pR at h
  split at h
  · exact ⟨_, _, rfl, h⟩
  · cases h
theorem pQ_inv {st : List Value} {f : Option Nat → List Value → Option SR} {z : SR} (h : pQ st f = some z) : ∃ x r, st = va_rf x :: r ∧ f x r = some z := by
  unfold pQ at h
  split at h
  · exact ⟨_, _, rfl, h⟩
  · exact ⟨_, _, rfl, h⟩
  · cases h
theorem p1_inv {st : List Value} {f : Value → List Value → Option SR} {z : SR} (h : p1 st f = some z) : ∃ v r, st = v :: r ∧ v.category = 1 ∧ f v r = some z := by
  unfold p1 at h
  split at h
  · exact ⟨_, _, rfl, rfl, h⟩
  · exact ⟨_, _, rfl, rfl, h⟩
  · exact ⟨_, _, rfl, rfl, h⟩
  · cases h
theorem gI_inv {lv : List (Option Value)} {i : Nat} {f : Int32 → Option SR} {z : SR} (h : gI lv i f = some z) : ∃ x, lv[i]? = some (some (.int x)) ∧ f x = some z := by
  unfold gI at h
  split at h
  · exact ⟨_, by assumption, h⟩
  · cases h
theorem gJ_inv {lv : List (Option Value)} {i : Nat} {f : Int64 → Option SR} {z : SR} (h : gJ lv i f = some z) : ∃ x, lv[i]? = some (some (.long x)) ∧ f x = some z := by
  unfold gJ at h
  split at h
  · exact ⟨_, by assumption, h⟩
  · cases h
theorem gQ_inv {lv : List (Option Value)} {i : Nat} {f : Option Nat → Option SR} {z : SR} (h : gQ lv i f = some z) : ∃ x, lv[i]? = some (some (va_rf x)) ∧ f x = some z := by
  unfold gQ at h
  split at h
  · exact ⟨_, by assumption, h⟩
  · exact ⟨none, by assumption, h⟩
  · cases h
theorem bI_inv {i : Int32} {n : Nat} {z : Option SR} {y : SR} (h : bI i n z = some y) : vp_in i n ∧ z = some y := by
  unfold bI at h
  split at h
  · cases h
  · exact ⟨by assumption, h⟩
def aI (h : AH) (a : Nat) (f : FieldType → Nat → (Nat → Value) → Option SR) : Option SR := match h.2.2 a with
  | some (.inl (ty, n, g)) => f ty n g
  | _ => none
theorem aI_inv {h : AH} {a : Nat} {f : FieldType → Nat → (Nat → Value) → Option SR} {z : SR} (hh : aI h a f = some z) : ∃ ty n g, h.2.2 a = some (.inl (ty, n, g)) ∧ f ty n g = some z := by
  unfold aI at hh
  split at hh
  · exact ⟨_, _, _, by assumption, hh⟩
  · cases hh
def oI (h : AH) (a : Nat) (f : Nat → List Value → Option SR) : Option SR := match h.2.2 a with
  | some (.inr (ci, fs)) => f ci fs
  | _ => none
theorem oI_inv {h : AH} {a : Nat} {f : Nat → List Value → Option SR} {z : SR} (hh : oI h a f = some z) : ∃ ci fs, h.2.2 a = some (.inr (ci, fs)) ∧ f ci fs = some z := by
  unfold oI at hh
  split at hh
  · exact ⟨_, _, by assumption, hh⟩
  · cases hh
def iff' (c : Prop) [Decidable c] (z : Option SR) : Option SR := if c then z else none
theorem iff'_inv {c : Prop} [Decidable c] {z : Option SR} {y : SR} (h : iff' c z = some y) : c ∧ z = some y := by
  unfold iff' at h
  split at h
  · exact ⟨by assumption, h⟩
  · cases h
def nI1 (l : List Nat) (f : Nat → Option SR) : Option SR := match l with
  | a :: _ => f a
  | _ => none
def nI3 (l : List Nat) (f : Nat → Nat → Option SR) : Option SR := match l with
  | _ :: a :: b :: _ => f a b
  | _ => none
def newT (at_ : ArrayType) : Option FieldType := match at_ with
  | .int => some .int
  | .long => some .long
  | .byte => some .byte
  | .boolean => some .boolean
  | _ => none
/-- the step: sb, sL, sx are the script's place, length and ints -/
def stp (sb sL : Nat) (sx : Nat → Int32) (nL : Nat) (ins : Instr) (nx : Nat) (ri : List Nat) (lv : List (Option Value)) (st : List Value) (h : AH) : Option SR :=
  match ins with
  | .iconst n => some (nx, lv, .int (Int32.ofInt n) :: st, h)
  | .bipush n => some (nx, lv, .int (Int8.ofInt n).toInt32 :: st, h)
  | .sipush n => some (nx, lv, .int (Int16.ofInt n).toInt32 :: st, h)
  | .lconst n => some (nx, lv, .long (Int64.ofNat (n : Nat)) :: st, h)
  | .aconst_null => some (nx, lv, .null :: st, h)
  | .ldc _ => nI1 ri fun r => match KI[r]? with
    | some q => some (nx, lv, .int q.2.2.1 :: st, h)
    | none => none
  | .ldc2_w _ => nI1 ri fun r => match KJ[r]? with
    | some q => some (nx, lv, .long q.2.2.1 :: st, h)
    | none => none
  | .iload_n k => gI lv k fun x => some (nx, lv, .int x :: st, h)
  | .iload k => gI lv k fun x => some (nx, lv, .int x :: st, h)
  | .lload_n k => gJ lv k fun x => some (nx, lv, .long x :: st, h)
  | .lload k => gJ lv k fun x => some (nx, lv, .long x :: st, h)
  | .aload_n k => gQ lv k fun x => some (nx, lv, va_rf x :: st, h)
  | .aload k => gQ lv k fun x => some (nx, lv, va_rf x :: st, h)
  | .istore_n k => pI st fun x st => iff' ((k : Nat) < nL) (some (nx, lv1 lv k (.int x), st, h))
  | .istore k => pI st fun x st => iff' (k < nL) (some (nx, lv1 lv k (.int x), st, h))
  | .lstore_n k => pJ st fun x st => iff' ((k : Nat) + 1 < nL) (some (nx, lv2 lv k (.long x), st, h))
  | .lstore k => pJ st fun x st => iff' (k + 1 < nL) (some (nx, lv2 lv k (.long x), st, h))
  | .astore_n k => pQ st fun x st => iff' ((k : Nat) < nL) (some (nx, lv1 lv k (va_rf x), st, h))
  | .astore k => pQ st fun x st => iff' (k < nL) (some (nx, lv1 lv k (va_rf x), st, h))
  | .iinc k n => gI lv k fun x => iff' (k < nL) (some (nx, lv1 lv k (.int (x + Int32.ofInt n)), st, h))
  | .iadd => pI st fun y st => pI st fun x st => some (nx, lv, .int (x + y) :: st, h)
  | .isub => pI st fun y st => pI st fun x st => some (nx, lv, .int (x - y) :: st, h)
  | .imul => pI st fun y st => pI st fun x st => some (nx, lv, .int (x * y) :: st, h)
  | .iand => pI st fun y st => pI st fun x st => some (nx, lv, .int (x &&& y) :: st, h)
  | .ior => pI st fun y st => pI st fun x st => some (nx, lv, .int (x ||| y) :: st, h)
  | .idiv => pI st fun y st => pI st fun x st => iff' (¬ y = 0) (some (nx, lv, .int (x / y) :: st, h))
  | .irem => pI st fun y st => pI st fun x st => iff' (¬ y = 0) (some (nx, lv, .int (x - x / y * y) :: st, h))
  | .ishl => pI st fun y st => pI st fun x st => some (nx, lv, .int (x <<< (y &&& 31)) :: st, h)
  | .ishr => pI st fun y st => pI st fun x st => some (nx, lv, .int (x >>> (y &&& 31)) :: st, h)
  | .iushr => pI st fun y st => pI st fun x st => some (nx, lv, .int (x.toUInt32 >>> (y.toUInt32 &&& Int32.toUInt32 31)).toInt32 :: st, h)
  | .ladd => pJ st fun y st => pJ st fun x st => some (nx, lv, .long (x + y) :: st, h)
  | .lsub => pJ st fun y st => pJ st fun x st => some (nx, lv, .long (x - y) :: st, h)
  | .lmul => pJ st fun y st => pJ st fun x st => some (nx, lv, .long (x * y) :: st, h)
  | .land => pJ st fun y st => pJ st fun x st => some (nx, lv, .long (x &&& y) :: st, h)
  | .lor => pJ st fun y st => pJ st fun x st => some (nx, lv, .long (x ||| y) :: st, h)
  | .lshl => pI st fun y st => pJ st fun x st => some (nx, lv, .long (x <<< (y.toInt64 &&& 63)) :: st, h)
  | .lshr => pI st fun y st => pJ st fun x st => some (nx, lv, .long (x >>> (y.toInt64 &&& 63)) :: st, h)
  | .lushr => pI st fun y st => pJ st fun x st => some (nx, lv, .long (x.toUInt64 >>> (y.toInt64.toUInt64 &&& Int64.toUInt64 63)).toInt64 :: st, h)
  | .lcmp => pJ st fun y st => pJ st fun x st => some (nx, lv, .int (lg_cmp x y) :: st, h)
  | .i2l => pI st fun x st => some (nx, lv, .long x.toInt64 :: st, h)
  | .l2i => pJ st fun x st => some (nx, lv, .int x.toInt32 :: st, h)
  | .i2b => pI st fun x st => some (nx, lv, .int x.toInt8.toInt32 :: st, h)
  | .dup => p1 st fun v st => some (nx, lv, v :: v :: st, h)
  | .pop => p1 st fun _ st => some (nx, lv, st, h)
  | .dup_x1 => p1 st fun v st => p1 st fun w st => some (nx, lv, v :: w :: v :: st, h)
  | .dup_x2 => p1 st fun v st => p1 st fun w st => p1 st fun u st => some (nx, lv, v :: w :: u :: v :: st, h)
  | .dup2 => p1 st fun v st => p1 st fun w st => some (nx, lv, v :: w :: v :: w :: st, h)
  | .goto _ => nI1 ri fun t => some (t, lv, st, h)
  | .ifCond c _ => nI1 ri fun t => pI st fun x st => some (match c with
    | .eq => if x = 0 then t else nx
    | .ne => if x = 0 then nx else t
    | .lt => if x < 0 then t else nx
    | .ge => if 0 ≤ x then t else nx
    | .gt => if 0 < x then t else nx
    | .le => if x ≤ 0 then t else nx, lv, st, h)
  | .if_icmp c _ => nI1 ri fun t => pI st fun y st => pI st fun x st => some (match c with
    | .eq => if x = y then t else nx
    | .ne => if x = y then nx else t
    | .lt => if x < y then t else nx
    | .ge => if y ≤ x then t else nx
    | .gt => if y < x then t else nx
    | .le => if x ≤ y then t else nx, lv, st, h)
  | .ifnull _ => nI1 ri fun t => pQ st fun x st => some (match x with | none => t | some _ => nx, lv, st, h)
  | .ifnonnull _ => nI1 ri fun t => pQ st fun x st => some (match x with | none => nx | some _ => t, lv, st, h)
  | .if_acmp c _ => nI1 ri fun t => pQ st fun y st => pQ st fun x st => some (match c with
    | .eq => if x = y then t else nx
    | .ne => if x = y then nx else t, lv, st, h)
  | .tableswitch _ lo hi _ => pI st fun x st => if x.toInt < lo ∨ hi < x.toInt then nI1 ri fun t => some (t, lv, st, h) else (ri[(x.toInt - lo).toNat + 1]?).bind fun t => some (t, lv, st, h)
  | .getfield _ => nI3 ri fun ci k => pR st fun a st => oI h a fun cj fs => iff' (cj = ci) ((fs[k]?).bind fun v => some (nx, lv, v :: st, h))
  | .putfield _ => nI3 ri fun ci k => match st with
    | v :: st => pR st fun a st => oI h a fun cj fs => iff' (cj = ci) (match (vty.getD ci [])[k]? with
      | some ty => iff' (fitv ty v = true) (some (nx, lv, st, hput h a (.inr (ci, fs.set k v))))
      | none => none)
    | _ => none
  | .arraylength => pR st fun a st => if a = sb then some (nx, lv, .int (Int32.ofNat sL) :: st, h) else aI h a fun _ n _ => some (nx, lv, .int (Int32.ofNat n) :: st, h)
  | .iaload => pI st fun i st => pR st fun a st => if a = sb then bI i sL (some (nx, lv, .int (sx i.toNatClampNeg) :: st, h)) else aI h a fun ty n f => match ty with
    | .int => bI i n (some (nx, lv, f i.toNatClampNeg :: st, h))
    | _ => none
  | .laload => pI st fun i st => pR st fun a st => aI h a fun ty n f => match ty with
    | .long => bI i n (some (nx, lv, f i.toNatClampNeg :: st, h))
    | _ => none
  | .baload => pI st fun i st => pR st fun a st => aI h a fun ty n f => match ty with
    | .byte => bI i n (some (nx, lv, f i.toNatClampNeg :: st, h))
    | .boolean => bI i n (some (nx, lv, f i.toNatClampNeg :: st, h))
    | _ => none
  | .aaload => pI st fun i st => pR st fun a st => aI h a fun ty n f => match ty with
    | .object _ => bI i n (some (nx, lv, f i.toNatClampNeg :: st, h))
    | .array _ => bI i n (some (nx, lv, f i.toNatClampNeg :: st, h))
    | _ => none
  | .iastore => pI st fun x st => pI st fun i st => pR st fun a st => aI h a fun ty n f => match ty with
    | .int => bI i n (some (nx, lv, st, hput h a (.inl (.int, n, updV f i.toNatClampNeg (.int x)))))
    | _ => none
  | .lastore => pJ st fun x st => pI st fun i st => pR st fun a st => aI h a fun ty n f => match ty with
    | .long => bI i n (some (nx, lv, st, hput h a (.inl (.long, n, updV f i.toNatClampNeg (.long x)))))
    | _ => none
  | .bastore => pI st fun x st => pI st fun i st => pR st fun a st => aI h a fun ty n f => match ty with
    | .byte => bI i n (some (nx, lv, st, hput h a (.inl (.byte, n, updV f i.toNatClampNeg (narrow .byte (.int x))))))
    | .boolean => bI i n (some (nx, lv, st, hput h a (.inl (.boolean, n, updV f i.toNatClampNeg (narrow .boolean (.int x))))))
    | _ => none
  | .aastore => pQ st fun x st => pI st fun i st => pR st fun a st => aI h a fun ty n f => match ty with
    | .object C => bI i n (match x with
      | none => some (nx, lv, st, hput h a (.inl (.object C, n, updV f i.toNatClampNeg .null)))
      | some v => oI h v fun cj _ => iff' ((vcl[cj]?).map (fun q => q.1) = some C) (some (nx, lv, st, hput h a (.inl (.object C, n, updV f i.toNatClampNeg (.ref v))))))
    | _ => none
  | .newarray at_ => pI st fun n st => match newT at_ with
    | some ty => iff' (¬ (n < 0 ∨ 1000000 < n.toNatClampNeg)) (some (nx, lv, .ref h.1 :: st, hnew h (.inl (ty, n.toNatClampNeg, fun _ => defaultValue ty)) n.toNatClampNeg))
    | none => none
  | .anewarray _ => nI1 ri fun t => pI st fun n st => match atys[t]? with
    | some (.object C) => iff' (¬ (n < 0 ∨ 1000000 < n.toNatClampNeg)) (some (nx, lv, .ref h.1 :: st, hnew h (.inl (.object C, n.toNatClampNeg, fun _ => .null)) n.toNatClampNeg))
    | _ => none
  | .new _ => nI1 ri fun ci => match vty[ci]? with
    | some ts => some (nx, lv, .ref h.1 :: st, hnew h (.inr (ci, ts.map defaultValue)) ts.length)
    | none => none
  | _ => none
end
section
/-! the step is the machine's -/
def ilen : Instr → Nat
  | .bipush _ | .ldc _ | .iload _ | .lload _ | .aload _ | .istore _ | .lstore _ | .astore _ | .newarray _ => 2
  | .sipush _ | .ldc2_w _ | .iinc .. | .goto _ | .ifCond .. | .if_icmp .. | .ifnull _ | .ifnonnull _ | .if_acmp .. | .getfield _ | .putfield _ | .anewarray _ | .new _ | .invokevirtual _ | .invokestatic _ | .invokespecial _ => 3
  | .multianewarray .. => 4
  | _ => 1
def tgt1 (pc : Nat) (off : Int) (ri : List Nat) : Bool := match ri with
  | t :: _ => decide ((pc : Int) + off = (t : Int))
  | [] => false
/-- an entry of a method's list is what its bytes say, and its links are words of the tables -/
def eok (own : String) (cc : ByteArray) (ini : Bool) (e : EN) : Bool :=
  (match e.2.1 with
    | .tableswitch d _ _ offs => decide (decode cc e.1 = .ok (e.2.1, e.2.2.1 - e.1)) && (match e.2.2.2 with
      | t0 :: ts => decide ((e.1 : Int) + d = (t0 : Int)) && decide (offs.toList.map (fun o => (e.1 : Int) + o) = ts.map (fun t : Nat => (t : Int)))
      | [] => false)
    | _ => decide (decode cc e.1 = .ok (e.2.1, ilen e.2.1)) && decide (e.2.2.1 = e.1 + ilen e.2.1)) &&
  (match e.2.1 with
    | .goto off => tgt1 e.1 off e.2.2.2
    | .ifnull off => tgt1 e.1 off e.2.2.2
    | .ifnonnull off => tgt1 e.1 off e.2.2.2
    | .ifCond _ off => tgt1 e.1 off e.2.2.2
    | .if_icmp _ off => tgt1 e.1 off e.2.2.2
    | .if_acmp _ off => tgt1 e.1 off e.2.2.2
    | .ldc idx => match e.2.2.2 with
      | r :: _ => (KI[r]?).any fun q => decide (q.1 = own) && decide (q.2.1 = idx)
      | [] => false
    | .ldc2_w idx => match e.2.2.2 with
      | r :: _ => (KJ[r]?).any fun q => decide (q.1 = own) && decide (q.2.1 = idx)
      | [] => false
    | .getfield idx => match e.2.2.2 with
      | r :: ci :: k :: _ => (FT[r]?).any fun q => decide (q.1 = own) && decide (q.2.1 = idx) && decide (q.2.2.1 = ci) && decide (q.2.2.2.1 = k)
      | _ => false
    | .putfield idx => match e.2.2.2 with
      | r :: ci :: k :: _ => (FT[r]?).any fun q => decide (q.1 = own) && decide (q.2.1 = idx) && decide (q.2.2.1 = ci) && decide (q.2.2.2.1 = k) && (vcl[ci]?).any fun v => !(v.2.1 k).2.2.2 || (ini && !q.2.2.2.2.1 && decide (v.1 = own))
      | _ => false
    | .new idx => match e.2.2.2 with
      | ci :: wi :: _ => (vcl[ci]?).any fun v => decide (lw_tbl[wi]? = some (.classLink own idx v.1))
      | _ => false
    | .anewarray idx => match e.2.2.2 with
      | t :: wi :: wj :: _ => match atys[t]? with
        | some (.object C) => decide (lw_tbl[wi]? = some (.classLink own idx C)) && decide (lw_tbl[wj]? = some (.arrayOver (.object C)))
        | _ => false
      | _ => false
    | _ => true)
section Snd
variable {D : va_G} {dA : FieldType → ClassId} {base b L : Nat} {xs : Nat → Int32} {n0 s0 nL : Nat} {own : String} {cc : ByteArray}
variable {p : Program} {l : Launch} {e : Env} {R : Room} {s : State} {m : MethodId} {args : Array Value} {below : List Frame} {meth : Method} {c : Code} {Q : State → Prop}
/-- what a method's body stands on -/
def Cx (D : va_G) (dA : FieldType → ClassId) (base b L : Nat) (xs : Nat → Int32) (own : String) (cc : ByteArray) (nL : Nat) (p : Program) (s : State) (m : MethodId) (meth : Method) (c : Code) : Prop :=
  p.tables.exec = Jvm.exec ∧ c.code = cc ∧ c.maxLocals = nL ∧ s.vm.findClass own = some m.cls ∧ Wd D dA s ∧ Hw base b L xs s s.heap ∧ meth.locks = false
/-- the machine goes on from an abstract frame -/
def KK (D : va_G) (dA : FieldType → ClassId) (base n0 s0 nL : Nat) (p : Program) (l : Launch) (e : Env) (R : Room) (s : State) (m : MethodId) (args : Array Value) (below : List Frame) (meth : Method) (c : Code) (Q : State → Prop) (pc : Nat) (lv : List (Option Value)) (st : List Value) (h : AH) : Prop :=
  ∀ (H : Heap) (locs : List Loc) (cells slots : Nat) (ls : Array Slot), Rp D dA base h H → va_S (fun q => base ≤ q) s.heap H locs → LV ls nL lv → cells + n0 = h.1 → slots + s0 = h.2.1 → W p l e R s m args below meth c H locs cells slots Q (F0 m pc ls st)
theorem tgt1_inv {pc : Nat} {off : Int} {ri : List Nat} (h : tgt1 pc off ri = true) : ∃ t r, ri = t :: r ∧ (pc : Int) + off = (t : Int) := by
  match ri, h with
  | t :: r, h => exact ⟨t, r, rfl, of_decide_eq_true h⟩
theorem nI1_cons {t : Nat} {r : List Nat} {f : Nat → Option SR} : nI1 (t :: r) f = f t := rfl
/-- a word of the tables by its place -/
theorem Wd.at {D : va_G} {dA : FieldType → ClassId} {s : State} (h : Wd D dA s) {w : Cond} {i : Nat} (hw : lw_tbl[i]? = some w) (hk : wk w = true) {A : Array Value} : w.before A s = true := h.word (List.mem_of_getElem? hw) hk
theorem W.ofsteps {H : Heap} {locs : List Loc} {cells slots : Nat} {g g2 : JFrame} (h : ∀ T : State, T.heap = H → Stand p l e R s m args below meth c T locs cells slots → ∀ t, Steps p.tables e below (T.setTop g2) t → Steps p.tables e below (T.setTop g) t) (k : W p l e R s m args below meth c H locs cells slots Q g2) : W p l e R s m args below meth c H locs cells slots Q g := by
  intro T hT X
  obtain ⟨t, a1, b1⟩ := k T hT X
  exact ⟨t, h T hT X t a1, b1⟩
/-- storing a local by a row that only needs the store's success -/
theorem wx_store1 {H : Heap} {locs : List Loc} {cells slots : Nat} {lv : List (Option Value)} {ls : Array Slot} {i pc pc' : Nat} {v : Value} {st st' : List Value} (hL : LV ls nL lv) (hi : i < nL) (hv : v.category = 1)
    (row : ∀ ls' : Array Slot, storeLocals ls i v = some ls' → W p l e R s m args below meth c H locs cells slots Q (F0 m pc' ls' st') → W p l e R s m args below meth c H locs cells slots Q (F0 m pc ls st))
    (k : ∀ ls', LV ls' nL (lv1 lv i v) → W p l e R s m args below meth c H locs cells slots Q (F0 m pc' ls' st')) : W p l e R s m args below meth c H locs cells slots Q (F0 m pc ls st) := by
  obtain ⟨ls', e', h'⟩ := hL.set1 hi hv
  exact row ls' e' (k ls' h')
theorem wx_store2 {H : Heap} {locs : List Loc} {cells slots : Nat} {lv : List (Option Value)} {ls : Array Slot} {i pc pc' : Nat} {v : Value} {st st' : List Value} (hL : LV ls nL lv) (hi : i + 1 < nL) (hv : v.category = 2)
    (row : ∀ ls' : Array Slot, storeLocals ls i v = some ls' → W p l e R s m args below meth c H locs cells slots Q (F0 m pc' ls' st') → W p l e R s m args below meth c H locs cells slots Q (F0 m pc ls st))
    (k : ∀ ls', LV ls' nL (lv2 lv i v) → W p l e R s m args below meth c H locs cells slots Q (F0 m pc' ls' st')) : W p l e R s m args below meth c H locs cells slots Q (F0 m pc ls st) := by
  obtain ⟨ls', e', h'⟩ := hL.set2 hi hv
  exact row ls' e' (k ls' h')
theorem rw_istore_n (hexec : p.tables.exec = Jvm.exec) (hb : c.code = cc) {H : Heap} {locs : List Loc} {cells slots pc : Nat} {ls ls' : Array Slot} {k : Fin 4} {x : Int32} {rest : List Value} (hdg : decode cc pc = .ok (.istore_n k, 1)) (e' : storeLocals ls k (.int x) = some ls') (kk : W p l e R s m args below meth c H locs cells slots Q (F0 m (pc + 1) ls' rest)) : W p l e R s m args below meth c H locs cells slots Q (F0 m pc ls (.int x :: rest)) := by
  intro T hT X
  obtain ⟨t, a, b⟩ := kk T hT X
  refine ⟨t, ?_, b⟩
  jvm_step X.here [X.here.top, ↓top_set X.here.top, hexec, hb, hdg, e']
  exact a
theorem rw_istore (hexec : p.tables.exec = Jvm.exec) (hb : c.code = cc) {H : Heap} {locs : List Loc} {cells slots pc : Nat} {ls ls' : Array Slot} {k : Nat} {x : Int32} {rest : List Value} (hdg : decode cc pc = .ok (.istore k, 2)) (e' : storeLocals ls k (.int x) = some ls') (kk : W p l e R s m args below meth c H locs cells slots Q (F0 m (pc + 2) ls' rest)) : W p l e R s m args below meth c H locs cells slots Q (F0 m pc ls (.int x :: rest)) := by
  intro T hT X
  obtain ⟨t, a, b⟩ := kk T hT X
  refine ⟨t, ?_, b⟩
  jvm_step X.here [X.here.top, ↓top_set X.here.top, hexec, hb, hdg, e']
  exact a
theorem rw_lstore_n (hexec : p.tables.exec = Jvm.exec) (hb : c.code = cc) {H : Heap} {locs : List Loc} {cells slots pc : Nat} {ls ls' : Array Slot} {k : Fin 4} {x : Int64} {rest : List Value} (hdg : decode cc pc = .ok (.lstore_n k, 1)) (e' : storeLocals ls k (.long x) = some ls') (kk : W p l e R s m args below meth c H locs cells slots Q (F0 m (pc + 1) ls' rest)) : W p l e R s m args below meth c H locs cells slots Q (F0 m pc ls (.long x :: rest)) := by
  intro T hT X
  obtain ⟨t, a, b⟩ := kk T hT X
  refine ⟨t, ?_, b⟩
  jvm_step X.here [X.here.top, ↓top_set X.here.top, hexec, hb, hdg, e']
  exact a
theorem rw_lstore (hexec : p.tables.exec = Jvm.exec) (hb : c.code = cc) {H : Heap} {locs : List Loc} {cells slots pc : Nat} {ls ls' : Array Slot} {k : Nat} {x : Int64} {rest : List Value} (hdg : decode cc pc = .ok (.lstore k, 2)) (e' : storeLocals ls k (.long x) = some ls') (kk : W p l e R s m args below meth c H locs cells slots Q (F0 m (pc + 2) ls' rest)) : W p l e R s m args below meth c H locs cells slots Q (F0 m pc ls (.long x :: rest)) := by
  intro T hT X
  obtain ⟨t, a, b⟩ := kk T hT X
  refine ⟨t, ?_, b⟩
  jvm_step X.here [X.here.top, ↓top_set X.here.top, hexec, hb, hdg, e']
  exact a
theorem rw_astore_n (hexec : p.tables.exec = Jvm.exec) (hb : c.code = cc) {H : Heap} {locs : List Loc} {cells slots pc : Nat} {ls ls' : Array Slot} {k : Fin 4} {x : Option Nat} {rest : List Value} (hdg : decode cc pc = .ok (.astore_n k, 1)) (e' : storeLocals ls k (va_rf x) = some ls') (kk : W p l e R s m args below meth c H locs cells slots Q (F0 m (pc + 1) ls' rest)) : W p l e R s m args below meth c H locs cells slots Q (F0 m pc ls (va_rf x :: rest)) := by
  intro T hT X
  obtain ⟨t, a, b⟩ := kk T hT X
  refine ⟨t, ?_, b⟩
  cases x
  · have e' : storeLocals ls k .null = some ls' := e'
    jvm_step X.here [X.here.top, ↓top_set X.here.top, hexec, hb, hdg, va_rf, e']
    exact ⟨rfl, a⟩
  · rename_i q
    have e' : storeLocals ls k (.ref q) = some ls' := e'
    jvm_step X.here [X.here.top, ↓top_set X.here.top, hexec, hb, hdg, va_rf, e']
    exact ⟨rfl, a⟩
theorem rw_astore (hexec : p.tables.exec = Jvm.exec) (hb : c.code = cc) {H : Heap} {locs : List Loc} {cells slots pc : Nat} {ls ls' : Array Slot} {k : Nat} {x : Option Nat} {rest : List Value} (hdg : decode cc pc = .ok (.astore k, 2)) (e' : storeLocals ls k (va_rf x) = some ls') (kk : W p l e R s m args below meth c H locs cells slots Q (F0 m (pc + 2) ls' rest)) : W p l e R s m args below meth c H locs cells slots Q (F0 m pc ls (va_rf x :: rest)) := by
  intro T hT X
  obtain ⟨t, a, b⟩ := kk T hT X
  refine ⟨t, ?_, b⟩
  cases x
  · have e' : storeLocals ls k .null = some ls' := e'
    jvm_step X.here [X.here.top, ↓top_set X.here.top, hexec, hb, hdg, va_rf, e']
    exact ⟨rfl, a⟩
  · rename_i q
    have e' : storeLocals ls k (.ref q) = some ls' := e'
    jvm_step X.here [X.here.top, ↓top_set X.here.top, hexec, hb, hdg, va_rf, e']
    exact ⟨rfl, a⟩
theorem rw_iinc (hexec : p.tables.exec = Jvm.exec) (hb : c.code = cc) {H : Heap} {locs : List Loc} {cells slots pc : Nat} {ls ls' : Array Slot} {k : Nat} {n : Int} {x : Int32} {rest : List Value} (hdg : decode cc pc = .ok (.iinc k n, 3)) (hg : ls[k]? = some (.val (.int x))) (e' : storeLocals ls k (.int (x + Int32.ofInt n)) = some ls') (kk : W p l e R s m args below meth c H locs cells slots Q (F0 m (pc + 3) ls' rest)) : W p l e R s m args below meth c H locs cells slots Q (F0 m pc ls rest) := by
  intro T hT X
  obtain ⟨t, a, b⟩ := kk T hT X
  refine ⟨t, ?_, b⟩
  jvm_step X.here [X.here.top, ↓top_set X.here.top, hexec, hb, hdg, hg, e']
  exact a
theorem rw_aload_n (hexec : p.tables.exec = Jvm.exec) (hb : c.code = cc) {H : Heap} {locs : List Loc} {cells slots pc : Nat} {ls : Array Slot} {k : Fin 4} {x : Option Nat} {rest : List Value} (hdg : decode cc pc = .ok (.aload_n k, 1)) (hg : ls[(k : Nat)]? = some (.val (va_rf x))) (kk : W p l e R s m args below meth c H locs cells slots Q (F0 m (pc + 1) ls (va_rf x :: rest))) : W p l e R s m args below meth c H locs cells slots Q (F0 m pc ls rest) := by
  cases x
  · exact lv_aload_nN hexec hb hdg rfl hg kk
  · exact lv_aload_n hexec hb hdg rfl hg kk
theorem rw_aload (hexec : p.tables.exec = Jvm.exec) (hb : c.code = cc) {H : Heap} {locs : List Loc} {cells slots pc : Nat} {ls : Array Slot} {k : Nat} {x : Option Nat} {rest : List Value} (hdg : decode cc pc = .ok (.aload k, 2)) (hg : ls[k]? = some (.val (va_rf x))) (kk : W p l e R s m args below meth c H locs cells slots Q (F0 m (pc + 2) ls (va_rf x :: rest))) : W p l e R s m args below meth c H locs cells slots Q (F0 m pc ls rest) := by
  cases x
  · exact lv_aloadN hexec hb hdg hg kk
  · exact lv_aload hexec hb hdg hg kk
end Snd
end
section
/-! rows on the heap -/
section SndH
variable {D : va_G} {dA : FieldType → ClassId} {base b L : Nat} {xs : Nat → Int32} {n0 s0 nL : Nat} {own : String} {cc : ByteArray}
variable {p : Program} {l : Launch} {e : Env} {R : Room} {s : State} {m : MethodId} {args : Array Value} {below : List Frame} {meth : Method} {c : Code} {Q : State → Prop}
variable {H : Heap} {locs : List Loc} {cells slots pc : Nat} {ls : Array Slot} {rest : List Value} {h : AH}
theorem goodLay {C : String} {T : u_T} {N : Nat} {w : Cond} (h : w ∈ u_ws C T N) : wk w = true := by
  obtain ⟨k, -, rfl⟩ := List.mem_map.mp h
  unfold u_lay
  split <;> rfl
theorem lays_ws (hW : Wd D dA s) {q : vw_C} (hq : q ∈ vcl) : ∀ w ∈ u_ws q.1 q.2.1 q.2.2, w.before args s = true := fun w hw => hW.word (vcl_in q hq w hw) (goodLay hw)
theorem rw_get (hexec : p.tables.exec = Jvm.exec) (hb : c.code = cc) (hW : Wd D dA s) (hown : s.vm.findClass own = some m.cls) {a r ci k idx wi : Nat} {nest : Bool} {fs : List Value} {v : Value} (ho : oat D dA a (.inr (ci, fs)) H) (hr : FT[r]? = some (own, idx, ci, k, nest, wi)) (hv : fs[k]? = some v) (hdg : decode cc pc = .ok (.getfield idx, 3))
    (kk : W p l e R s m args below meth c H locs cells slots Q (F0 m (pc + 3) ls (v :: rest))) : W p l e R s m args below meth c H locs cells slots Q (F0 m pc ls (.ref a :: rest)) := by
  obtain ⟨q, h1, h2, cell, q1, q2, q3, q4⟩ := ho
  have hft := List.all_eq_true.mp FT_ok _ (List.mem_of_getElem? hr)
  simp only [ftok, h1, Bool.and_eq_true, decide_eq_true_eq] at hft
  obtain ⟨hk, hw⟩ := hft
  have hq : q ∈ vcl := List.mem_of_getElem? h1
  obtain ⟨hS, hfc, kC, hkC, hkind⟩ := hW.2.1.1 ci q h1
  obtain ⟨cf, kf, fi, f, hi, hsl⟩ := hS k hk
  have hst := (u_facts (args := args) hfc hkC (u_lays (lays_ws hW hq) (fun _ h => h) hk) hi).1
  have hi2 : s.fieldFound? q.1 (q.2.1 k).2.1 (q.2.1 k).2.2.1 = some (cf, kf, fi, f) := by rw [← vcl_own q hq k hk]; exact hi
  have hslot : cell.slots[f.slot]? = some v := by rw [hsl, q4 k hk]; simp [vp_V, hv]
  cases nest with
  | false => exact W.getf hexec hb hown (hW.at hw rfl) hi2 hst q1 (by rw [q3]; exact fun h => by cases h) hslot rfl rfl hdg kk
  | true => exact va_Wgetf hexec hb hown (hW.at hw rfl) hi2 hst q1 (by rw [q3]; exact fun h => by cases h) hslot rfl rfl hdg kk
theorem fitv_ok {ty : FieldType} {v : Value} (h : fitv ty v = true) : narrow ty v = v ∧ fits ty v = true := by
  unfold fitv at h
  split at h
  · exact ⟨rfl, rfl⟩
  · rename_i x
    simp only [Bool.or_eq_true, beq_iff_eq] at h
    rcases h with rfl | rfl <;> exact ⟨by decide, by decide⟩
  · exact ⟨rfl, rfl⟩
  · exact ⟨rfl, rfl⟩
  · exact ⟨rfl, rfl⟩
  · exact ⟨rfl, rfl⟩
  · cases h
theorem vty_at {ci k : Nat} {q : vw_C} {ty : FieldType} (h1 : vcl[ci]? = some q) (hk : k < q.2.2) (ht : (vty.getD ci [])[k]? = some ty) : ty = fty q.2.1 k := by
  have hci : ci < 8 := (List.getElem?_eq_some_iff.mp h1).1
  obtain ⟨q', ts, e1, e2, e3, e4⟩ := vty_ok ci hci
  cases h1.symm.trans e1
  rw [List.getD_eq_getElem?_getD, e2] at ht
  exact Option.some.inj (ht.symm.trans (e4 k hk))
theorem rw_put (hexec : p.tables.exec = Jvm.exec) (hb : c.code = cc) (hW : Wd D dA s) (hown : s.vm.findClass own = some m.cls) {a r ci k idx wi : Nat} {nest ini : Bool} {fs : List Value} {v : Value} {ty : FieldType} (hR : Rp D dA base h H) (hS0 : va_S (fun q => base ≤ q) s.heap H locs) (ha : h.2.2 a = some (.inr (ci, fs))) (hr : FT[r]? = some (own, idx, ci, k, nest, wi))
    (hfin : (vcl[ci]?).any (fun v => !(v.2.1 k).2.2.2 || (ini && !nest && decide (v.1 = own))) = true) (hini : ini = true → meth.name = "<init>") (hty : (vty.getD ci [])[k]? = some ty) (hv : fitv ty v = true) (hdg : decode cc pc = .ok (.putfield idx, 3))
    (kk : ∀ (H1 : Heap) (locs1 : List Loc), Rp D dA base (hput h a (.inr (ci, fs.set k v))) H1 → va_S (fun q => base ≤ q) s.heap H1 locs1 → W p l e R s m args below meth c H1 locs1 cells slots Q (F0 m (pc + 3) ls rest)) : W p l e R s m args below meth c H locs cells slots Q (F0 m pc ls (v :: .ref a :: rest)) := by
  obtain ⟨hba, q, h1, h2, cell, q1, q2, q3, q4⟩ := hR.2.2 a _ ha
  have hft := List.all_eq_true.mp FT_ok _ (List.mem_of_getElem? hr)
  simp only [ftok, h1, Bool.and_eq_true, decide_eq_true_eq] at hft
  obtain ⟨hk, hw⟩ := hft
  have hq : q ∈ vcl := List.mem_of_getElem? h1
  have hKn := hW.2.1.1 ci q h1
  obtain ⟨hS, hfc, kC, hkC, hkind⟩ := hKn
  obtain ⟨cf, kf, fi, f, hi, hsl⟩ := hS k hk
  have hws := lays_ws (args := args) hW hq
  have hst := (u_facts (args := args) hfc hkC (u_lays hws (fun _ h => h) hk) hi).1
  have hi2 : s.fieldFound? q.1 (q.2.1 k).2.1 (q.2.1 k).2.2.1 = some (cf, kf, fi, f) := by rw [← vcl_own q hq k hk]; exact hi
  have hap := va_apart (own := own) hws (fun _ h => h) (fty q.2.1) (vcl_ty q hq) (vcl_nm q hq) hW.2.1 h1
  obtain ⟨hn, hfit⟩ := fitv_ok hv
  rw [vty_at h1 hk hty] at hn hfit
  have hd := vcl_ty q hq k hk
  have hlay := hws _ (u_in_lay hk)
  rw [h1] at hfin
  simp only [Option.any_some, Bool.or_eq_true, Bool.and_eq_true, Bool.not_eq_true', decide_eq_true_eq] at hfin
  have go : ∀ H' : Heap, H'[a]? = some (cell.setSlot f.slot v) → H'.size = H.size → (∀ q, q ≠ a → H'[q]? = H[q]?) → W p l e R s m args below meth c H' (locs ++ [⟨a, f.slot⟩]) cells slots Q (F0 m (pc + 3) ls rest) := by
    intro H' e1 e2 e3
    rw [hsl] at e1
    refine kk H' _ (hR.put hba ⟨q, h1, by rw [List.length_set]; exact h2, t_OB.to (V := updV (vp_V fs) k v) ⟨_, e1, q2, q3, t_set q4 hap hk v⟩ (fun j _ => vp_updV_set (by rw [h2]; exact hk) v j)⟩ e2 e3) (hS0.put e2 e3 hba)
  have hlt : f.slot < cell.slots.size := by rw [hsl]; exact k2_hasslot (q4 k hk)
  by_cases hf : (q.2.1 k).2.2.2 = true
  · obtain ⟨⟨g1, g2⟩, g3⟩ := hfin.resolve_left (by rw [hf]; decide)
    subst g2
    unfold u_lay at hlay
    rw [if_pos hf] at hlay
    have hcf : m.cls = cf := by
      obtain ⟨_, _, c', _, _, _, -, -, hf', -, -, -, hown2, -⟩ := Cond.laysFinal_spec hlay
      have e1 : c' = cf := by have := hi.symm.trans hf'; simp at this; exact this.1.symm
      rw [vcl_own q hq k hk, g3] at hown2
      rw [← e1]; exact Option.some.inj (hown.symm.trans hown2)
    have h6 := u_fits hfc hkC hkind (Or.inr hlay) hi hd hn hfit
    exact W.putFinK hexec hb hown (hW.at hw rfl) hi2 hst hcf (hini g1) (by rw [q2]; exact h6) q1 q3 hlt rfl rfl hdg go
  · have hf : (q.2.1 k).2.2.2 = false := by cases hz : (q.2.1 k).2.2.2 <;> simp_all
    unfold u_lay at hlay
    rw [if_neg (by rw [hf]; decide)] at hlay
    have h6 := u_store hfc hkC hkind hlay hi hd hn hfit
    cases nest with
    | false => exact W.putK hexec hb (f := f) ⟨hown, hW.at hw rfl, ⟨_, _, _, hi2⟩, hst⟩ (by rw [q2]; exact h6) q1 q3 hlt rfl rfl hdg go
    | true => exact va_WputK hexec hb (f := f) hown (hW.at hw rfl) hi2 hst (by rw [q2]; exact h6) q1 q3 hlt rfl rfl hdg go
theorem rw_new (hexec : p.tables.exec = Jvm.exec) (hb : c.code = cc) (hW : Wd D dA s) (hown : s.vm.findClass own = some m.cls) {ci idx wi : Nat} {q : vw_C} {ts : List FieldType} (hR : Rp D dA base h H) (hS0 : va_S (fun q => base ≤ q) s.heap H locs) (h1 : vcl[ci]? = some q) (hts : vty[ci]? = some ts) (hw : lw_tbl[wi]? = some (.classLink own idx q.1))
    (hcells : cells + 1 ≤ R.cells) (hslots : slots + ts.length ≤ R.slots) (hdg : decode cc pc = .ok (.new idx, 3))
    (kk : ∀ H1 : Heap, Rp D dA base (hnew h (.inr (ci, ts.map defaultValue)) ts.length) H1 → va_S (fun q => base ≤ q) s.heap H1 locs → W p l e R s m args below meth c H1 locs (cells + 1) (slots + ts.length) Q (F0 m (pc + 3) ls (.ref h.1 :: rest))) : W p l e R s m args below meth c H locs cells slots Q (F0 m pc ls rest) := by
  have hq : q ∈ vcl := List.mem_of_getElem? h1
  have hci : ci < 8 := (List.getElem?_eq_some_iff.mp h1).1
  obtain ⟨q', ts', e1, e2, e3, e4⟩ := vty_ok ci hci
  cases h1.symm.trans e1
  cases hts.symm.trans e2
  have hKn := hW.2.1.1 ci q h1
  obtain ⟨i1, i2⟩ := vcl_inst q hq
  rw [e3] at hslots kk
  refine W.newcK hexec hb hown (hW.at hw rfl) (hW.word i1 rfl) (hW.word i2 rfl) rfl hdg hcells hslots hKn.2.1 hR.1 fun H1 kC hkC b1 z1 o1 => ?_
  have ho : oat D dA h.1 (.inr (ci, ts.map defaultValue)) H1 := by
    refine ⟨q, h1, by rw [List.length_map]; exact e3, (u_born (args := args) (fty q.2.1) (lays_ws hW hq) (fun _ h => h) hKn hkC b1 (vcl_ty q hq)).to fun j hj => ?_⟩
    simp [vp_V, e4 j hj]
  exact kk H1 (hR.new ho z1 o1) ⟨Nat.le_trans hS0.1 (by rw [z1, hR.1]; omega), fun x g1 g2 => (o1 x (by rw [← hR.1]; exact Nat.lt_of_lt_of_le g1 hS0.1)).trans (hS0.2.1 x g1 g2), hS0.2.2⟩
theorem newT_ok {at_ : ArrayType} {ty : FieldType} (h : newT at_ = some ty) : newarray.typeOf at_ = ty ∧ Cond.arrayClass ty ∈ lw_tbl ∧ ty ∈ atys ∧ componentBytes ty ≤ 8 ∧ "[" ++ (newarray.typeOf at_).toString = "[" ++ ty.toString ∧ (∀ (U : State) (cA : ClassId), va_RA U cA ty → U.vm.findClass ("[" ++ ty.toString) = some cA) := by
  have w1 : Cond.arrayClass .int ∈ lw_tbl := by decide +kernel
  have w2 : Cond.arrayClass .long ∈ lw_tbl := by decide +kernel
  have w3 : Cond.arrayClass .byte ∈ lw_tbl := by decide +kernel
  have w4 : Cond.arrayClass .boolean ∈ lw_tbl := by decide +kernel
  cases at_ <;> cases h
  all_goals exact ⟨rfl, by assumption, by decide, by decide, rfl, fun U cA h => h⟩
theorem rw_newa (hexec : p.tables.exec = Jvm.exec) (hb : c.code = cc) (hW : Wd D dA s) {at_ : ArrayType} {ty : FieldType} {n : Int32} (hR : Rp D dA base h H) (hS0 : va_S (fun q => base ≤ q) s.heap H locs) (hty : newT at_ = some ty) (hn : ¬ (n < 0 ∨ 1000000 < n.toNatClampNeg))
    (hcells : cells + 1 ≤ R.cells) (hslots : slots + n.toNatClampNeg ≤ R.slots) (hdg : decode cc pc = .ok (.newarray at_, 2))
    (kk : ∀ H1 : Heap, Rp D dA base (hnew h (.inl (ty, n.toNatClampNeg, fun _ => defaultValue ty)) n.toNatClampNeg) H1 → va_S (fun q => base ≤ q) s.heap H1 locs → W p l e R s m args below meth c H1 locs (cells + 1) (slots + n.toNatClampNeg) Q (F0 m (pc + 2) ls (.ref h.1 :: rest))) : W p l e R s m args below meth c H locs cells slots Q (F0 m pc ls (.int n :: rest)) := by
  obtain ⟨t1, t2, t3, t4, t5, t6⟩ := newT_ok hty
  subst t1
  refine va_newaK hexec hb (hW.word t2 rfl) rfl hdg rfl (fun q => hn (Or.inl q)) rfl ?_ hcells hslots hR.1 fun H1 cA b1 z1 o1 hAr hNm => ?_
  · have : n.toNatClampNeg ≤ 1000000 := Nat.not_lt.mp fun q => hn (Or.inr q)
    exact Nat.le_trans (Nat.mul_le_mul this t4) (by decide)
  · have hc : cA = dA (newarray.typeOf at_) := Option.some.inj (hNm.symm.trans (t6 s _ (hW.2.2.1 _ t3).2))
    subst hc
    exact kk H1 (hR.new ⟨t3, b1⟩ z1 o1) ⟨Nat.le_trans hS0.1 (by rw [z1, hR.1]; omega), fun x g1 g2 => (o1 x (by rw [← hR.1]; exact Nat.lt_of_lt_of_le g1 hS0.1)).trans (hS0.2.1 x g1 g2), hS0.2.2⟩
theorem rw_anew (hexec : p.tables.exec = Jvm.exec) (hb : c.code = cc) (hW : Wd D dA s) (hown : s.vm.findClass own = some m.cls) {C : String} {n : Int32} {idx wi wj : Nat} (hR : Rp D dA base h H) (hS0 : va_S (fun q => base ≤ q) s.heap H locs) (hty : FieldType.object C ∈ atys) (hw : lw_tbl[wi]? = some (.classLink own idx C)) (hw2 : lw_tbl[wj]? = some (.arrayOver (.object C))) (hn : ¬ (n < 0 ∨ 1000000 < n.toNatClampNeg))
    (hcells : cells + 1 ≤ R.cells) (hslots : slots + n.toNatClampNeg ≤ R.slots) (hdg : decode cc pc = .ok (.anewarray idx, 3))
    (kk : ∀ H1 : Heap, Rp D dA base (hnew h (.inl (.object C, n.toNatClampNeg, fun _ => .null)) n.toNatClampNeg) H1 → va_S (fun q => base ≤ q) s.heap H1 locs → W p l e R s m args below meth c H1 locs (cells + 1) (slots + n.toNatClampNeg) Q (F0 m (pc + 3) ls (.ref h.1 :: rest))) : W p l e R s m args below meth c H locs cells slots Q (F0 m pc ls (.int n :: rest)) := by
  refine W.anew hexec hb hown (hW.at hw rfl) (hW.at hw2 rfl) rfl hdg rfl (fun q => hn (Or.inl q)) ?_ hcells hslots fun cA kA comp f1 f2 f3 f4 => ?_
  · have : n.toNatClampNeg ≤ 1000000 := Nat.not_lt.mp fun q => hn (Or.inr q)
    omega
  · obtain ⟨kA', comp', k1, k2, k3, k4⟩ := (hW.2.2.1 _ hty).2
    cases Option.some.inj (f1.symm.trans k4)
    generalize hH1 : H.push ({ cls := dA (.object C), slots := Array.replicate n.toNatClampNeg .null, vm := .none } : Cell) = H1
    have z1 : H1.size = h.1 + 1 := by rw [← hH1, Array.size_push, hR.1]
    have e1 : H1[h.1]? = some (arrV (dA (.object C)) n.toNatClampNeg (fun _ => .null)) := by rw [← hH1, ← hR.1, Array.getElem?_push_size, ← arrV_new]
    have o1 : ∀ q : Nat, q < h.1 → H1[q]? = H[q]? := fun q hq => by rw [← hH1, Array.getElem?_push, if_neg (by rw [hR.1]; exact Nat.ne_of_lt hq)]
    rw [show H.size = h.1 from hR.1]
    exact kk H1 (hR.new ⟨hty, e1⟩ z1 o1) ⟨Nat.le_trans hS0.1 (by rw [z1, hR.1]; omega), fun x g1 g2 => (o1 x (by rw [← hR.1]; exact Nat.lt_of_lt_of_le g1 hS0.1)).trans (hS0.2.1 x g1 g2), hS0.2.2⟩
theorem arr_in {cA : ClassId} {n : Nat} {f : Nat → Value} {i : Int32} (hi : vp_in i n) : ¬ (i < 0 ∨ (arrV cA n f).slots.size ≤ i.toNatClampNeg) := by rw [arrV_size]; exact hi
theorem arr_rd {cA : ClassId} {n : Nat} {f : Nat → Value} {i : Int32} (hi : vp_in i n) : (arrV cA n f).slots[i.toNatClampNeg]? = some (f i.toNatClampNeg) := arrV_read _ _ (Nat.not_le.mp fun q => hi (Or.inr q))
theorem arr_nu {cA : ClassId} {n : Nat} {f : Nat → Value} : (arrV cA n f).vm ≠ .unknown := fun q => by cases q
/-- a stored element -/
theorem Rp.ast (hR : Rp D dA base h H) {a n : Nat} {ty : FieldType} {f : Nat → Value} {i : Nat} {v : Value} {H1 : Heap} (ha : h.2.2 a = some (.inl (ty, n, f))) (e1 : H1[a]? = some ((arrV (dA ty) n f).setSlot i v)) (z : H1.size = H.size) (oq : ∀ q, q ≠ a → H1[q]? = H[q]?) : Rp D dA base (hput h a (.inl (ty, n, updV f i v))) H1 := by
  obtain ⟨hb, ht, hc⟩ := hR.2.2 a _ ha
  exact hR.put hb ⟨ht, by rw [e1, arrV_store]⟩ z oq
end SndH
end
section
/-! the step keeps sizes, and is the machine's -/
section SndS
variable {D : va_G} {dA : FieldType → ClassId} {base b L : Nat} {xs : Nat → Int32} {n0 s0 nL : Nat} {own : String} {cc : ByteArray}
variable {p : Program} {l : Launch} {e : Env} {R : Room} {s : State} {m : MethodId} {args : Array Value} {below : List Frame} {meth : Method} {c : Code} {Q : State → Prop}
set_option maxHeartbeats 4000000 in
set_option maxRecDepth 10000 in
theorem stp_ok {ini : Bool} (cx : Cx D dA base b L xs own cc nL p s m meth c) (hini : ini = true → meth.name = "<init>") {pc nx : Nat} {ins : Instr} {ri : List Nat} (he : eok own cc ini (pc, ins, nx, ri) = true) {lv : List (Option Value)} {st : List Value} {h : AH} {pc' : Nat} {lv' : List (Option Value)} {st' : List Value} {h1 : AH}
    (hs : stp b L xs nL ins nx ri lv st h = some (pc', lv', st', h1)) (hroom : h1.1 ≤ n0 + R.cells ∧ h1.2.1 ≤ s0 + R.slots)
    (k : KK D dA base n0 s0 nL p l e R s m args below meth c Q pc' lv' st' h1) : KK D dA base n0 s0 nL p l e R s m args below meth c Q pc lv st h := by
  obtain ⟨hx, hb, hml, hown, hW, hH, hlocks⟩ := cx
  simp only [eok, Bool.and_eq_true] at he
  obtain ⟨he1, he2⟩ := he
  intro H locs cells slots ls hR hS hL hc hl
  have hb0 : ¬ (fun q => base ≤ q) b := Nat.not_le.mpr hH.2.2.2.1
  have hbl : b < s.heap.size := Nat.lt_of_lt_of_le hH.2.2.2.1 hH.2.2.2.2
  cases ins with
  | iconst n =>
    simp only [Bool.and_eq_true, decide_eq_true_eq] at he1
    simp only [ilen] at he1
    obtain ⟨hdg, rfl⟩ := he1
    cases hs
    exact lv_iconst hx hb hdg rfl (k H locs cells slots ls hR hS hL hc hl)
  | bipush n =>
    simp only [Bool.and_eq_true, decide_eq_true_eq] at he1
    simp only [ilen] at he1
    obtain ⟨hdg, rfl⟩ := he1
    cases hs
    exact lv_bipush hx hb hdg rfl (k H locs cells slots ls hR hS hL hc hl)
  | sipush n =>
    simp only [Bool.and_eq_true, decide_eq_true_eq] at he1
    simp only [ilen] at he1
    obtain ⟨hdg, rfl⟩ := he1
    cases hs
    exact lv_sipush hx hb hdg rfl (k H locs cells slots ls hR hS hL hc hl)
  | lconst n =>
    simp only [Bool.and_eq_true, decide_eq_true_eq] at he1
    simp only [ilen] at he1
    obtain ⟨hdg, rfl⟩ := he1
    cases hs
    exact lv_lconst hx hb hdg rfl (k H locs cells slots ls hR hS hL hc hl)
  | aconst_null =>
    simp only [Bool.and_eq_true, decide_eq_true_eq] at he1
    simp only [ilen] at he1
    obtain ⟨hdg, rfl⟩ := he1
    cases hs
    exact lv_null hx hb hdg (k H locs cells slots ls hR hS hL hc hl)
  | ldc idx =>
    simp only [Bool.and_eq_true, decide_eq_true_eq] at he1
    simp only [ilen] at he1
    obtain ⟨hdg, rfl⟩ := he1
    obtain ⟨r, r9, rfl⟩ : ∃ r r9, ri = r :: r9 := by
      rcases ri with _ | ⟨r, r9⟩
      · cases he2
      · exact ⟨r, r9, rfl⟩
    dsimp only at he2
    simp only [stp, nI1_cons] at hs
    cases hq : KI[r]? with
    | none => rw [hq] at hs; cases hs
    | some q =>
      rw [hq] at hs he2
      simp only [Option.any_some, Bool.and_eq_true, decide_eq_true_eq] at he2
      cases hs
      have hw := KI_ok q (List.mem_of_getElem? hq)
      rw [he2.1, he2.2] at hw
      exact lv_ldc hx hb hown (hW.at hw rfl) hdg (k H locs cells slots ls hR hS hL hc hl)
  | ldc2_w idx =>
    simp only [Bool.and_eq_true, decide_eq_true_eq] at he1
    simp only [ilen] at he1
    obtain ⟨hdg, rfl⟩ := he1
    obtain ⟨r, r9, rfl⟩ : ∃ r r9, ri = r :: r9 := by
      rcases ri with _ | ⟨r, r9⟩
      · cases he2
      · exact ⟨r, r9, rfl⟩
    dsimp only at he2
    simp only [stp, nI1_cons] at hs
    cases hq : KJ[r]? with
    | none => rw [hq] at hs; cases hs
    | some q =>
      rw [hq] at hs he2
      simp only [Option.any_some, Bool.and_eq_true, decide_eq_true_eq] at he2
      cases hs
      have hw := KJ_ok q (List.mem_of_getElem? hq)
      rw [he2.1, he2.2] at hw
      exact lv_ldc2 hx hb hown (hW.at hw rfl) hdg (k H locs cells slots ls hR hS hL hc hl)
  | iload_n i =>
    simp only [Bool.and_eq_true, decide_eq_true_eq] at he1
    simp only [ilen] at he1
    obtain ⟨hdg, rfl⟩ := he1
    simp only [stp] at hs
    have hz9 := gI_inv hs
    clear hs
    obtain ⟨x, hg, hs⟩ := hz9
    cases hs
    exact lv_iload_n hx hb hdg rfl (hL.get hg) (k H locs cells slots ls hR hS hL hc hl)
  | iload i =>
    simp only [Bool.and_eq_true, decide_eq_true_eq] at he1
    simp only [ilen] at he1
    obtain ⟨hdg, rfl⟩ := he1
    simp only [stp] at hs
    have hz9 := gI_inv hs
    clear hs
    obtain ⟨x, hg, hs⟩ := hz9
    cases hs
    exact lv_iload hx hb hdg (hL.get hg) (k H locs cells slots ls hR hS hL hc hl)
  | lload_n i =>
    simp only [Bool.and_eq_true, decide_eq_true_eq] at he1
    simp only [ilen] at he1
    obtain ⟨hdg, rfl⟩ := he1
    simp only [stp] at hs
    have hz9 := gJ_inv hs
    clear hs
    obtain ⟨x, hg, hs⟩ := hz9
    cases hs
    exact lv_lload_n hx hb hdg rfl (hL.get hg) (k H locs cells slots ls hR hS hL hc hl)
  | lload i =>
    simp only [Bool.and_eq_true, decide_eq_true_eq] at he1
    simp only [ilen] at he1
    obtain ⟨hdg, rfl⟩ := he1
    simp only [stp] at hs
    have hz9 := gJ_inv hs
    clear hs
    obtain ⟨x, hg, hs⟩ := hz9
    cases hs
    exact lv_lload hx hb hdg (hL.get hg) (k H locs cells slots ls hR hS hL hc hl)
  | aload_n i =>
    simp only [Bool.and_eq_true, decide_eq_true_eq] at he1
    simp only [ilen] at he1
    obtain ⟨hdg, rfl⟩ := he1
    simp only [stp] at hs
    have hz9 := gQ_inv hs
    clear hs
    obtain ⟨x, hg, hs⟩ := hz9
    cases hs
    exact rw_aload_n hx hb hdg (hL.get hg) (k H locs cells slots ls hR hS hL hc hl)
  | aload i =>
    simp only [Bool.and_eq_true, decide_eq_true_eq] at he1
    simp only [ilen] at he1
    obtain ⟨hdg, rfl⟩ := he1
    simp only [stp] at hs
    have hz9 := gQ_inv hs
    clear hs
    obtain ⟨x, hg, hs⟩ := hz9
    cases hs
    exact rw_aload hx hb hdg (hL.get hg) (k H locs cells slots ls hR hS hL hc hl)
  | istore_n i =>
    simp only [Bool.and_eq_true, decide_eq_true_eq] at he1
    simp only [ilen] at he1
    obtain ⟨hdg, rfl⟩ := he1
    simp only [stp] at hs
    have hz9 := pI_inv hs
    clear hs
    obtain ⟨x, r0, rfl, hs⟩ := hz9
    have hz9 := iff'_inv hs
    clear hs
    obtain ⟨hi, hs⟩ := hz9
    cases hs
    exact wx_store1 hL hi rfl (fun ls' e' kk => rw_istore_n hx hb hdg e' kk) (fun ls' hL' => k H locs cells slots ls' hR hS hL' hc hl)
  | istore i =>
    simp only [Bool.and_eq_true, decide_eq_true_eq] at he1
    simp only [ilen] at he1
    obtain ⟨hdg, rfl⟩ := he1
    simp only [stp] at hs
    have hz9 := pI_inv hs
    clear hs
    obtain ⟨x, r0, rfl, hs⟩ := hz9
    have hz9 := iff'_inv hs
    clear hs
    obtain ⟨hi, hs⟩ := hz9
    cases hs
    exact wx_store1 hL hi rfl (fun ls' e' kk => rw_istore hx hb hdg e' kk) (fun ls' hL' => k H locs cells slots ls' hR hS hL' hc hl)
  | lstore_n i =>
    simp only [Bool.and_eq_true, decide_eq_true_eq] at he1
    simp only [ilen] at he1
    obtain ⟨hdg, rfl⟩ := he1
    simp only [stp] at hs
    have hz9 := pJ_inv hs
    clear hs
    obtain ⟨x, r0, rfl, hs⟩ := hz9
    have hz9 := iff'_inv hs
    clear hs
    obtain ⟨hi, hs⟩ := hz9
    cases hs
    exact wx_store2 hL hi rfl (fun ls' e' kk => rw_lstore_n hx hb hdg e' kk) (fun ls' hL' => k H locs cells slots ls' hR hS hL' hc hl)
  | lstore i =>
    simp only [Bool.and_eq_true, decide_eq_true_eq] at he1
    simp only [ilen] at he1
    obtain ⟨hdg, rfl⟩ := he1
    simp only [stp] at hs
    have hz9 := pJ_inv hs
    clear hs
    obtain ⟨x, r0, rfl, hs⟩ := hz9
    have hz9 := iff'_inv hs
    clear hs
    obtain ⟨hi, hs⟩ := hz9
    cases hs
    exact wx_store2 hL hi rfl (fun ls' e' kk => rw_lstore hx hb hdg e' kk) (fun ls' hL' => k H locs cells slots ls' hR hS hL' hc hl)
  | astore_n i =>
    simp only [Bool.and_eq_true, decide_eq_true_eq] at he1
    simp only [ilen] at he1
    obtain ⟨hdg, rfl⟩ := he1
    simp only [stp] at hs
    have hz9 := pQ_inv hs
    clear hs
    obtain ⟨x, r0, rfl, hs⟩ := hz9
    have hz9 := iff'_inv hs
    clear hs
    obtain ⟨hi, hs⟩ := hz9
    cases hs
    exact wx_store1 hL hi (by cases x <;> rfl) (fun ls' e' kk => rw_astore_n hx hb hdg e' kk) (fun ls' hL' => k H locs cells slots ls' hR hS hL' hc hl)
  | astore i =>
    simp only [Bool.and_eq_true, decide_eq_true_eq] at he1
    simp only [ilen] at he1
    obtain ⟨hdg, rfl⟩ := he1
    simp only [stp] at hs
    have hz9 := pQ_inv hs
    clear hs
    obtain ⟨x, r0, rfl, hs⟩ := hz9
    have hz9 := iff'_inv hs
    clear hs
    obtain ⟨hi, hs⟩ := hz9
    cases hs
    exact wx_store1 hL hi (by cases x <;> rfl) (fun ls' e' kk => rw_astore hx hb hdg e' kk) (fun ls' hL' => k H locs cells slots ls' hR hS hL' hc hl)
  | iinc i n =>
    simp only [Bool.and_eq_true, decide_eq_true_eq] at he1
    simp only [ilen] at he1
    obtain ⟨hdg, rfl⟩ := he1
    simp only [stp] at hs
    have hz9 := gI_inv hs
    clear hs
    obtain ⟨x, hg, hs⟩ := hz9
    have hz9 := iff'_inv hs
    clear hs
    obtain ⟨hi, hs⟩ := hz9
    cases hs
    exact wx_store1 hL hi rfl (fun ls' e' kk => rw_iinc hx hb hdg (hL.get hg) e' kk) (fun ls' hL' => k H locs cells slots ls' hR hS hL' hc hl)
  | iadd =>
    simp only [Bool.and_eq_true, decide_eq_true_eq] at he1
    simp only [ilen] at he1
    obtain ⟨hdg, rfl⟩ := he1
    simp only [stp] at hs
    have hz9 := pI_inv hs
    clear hs
    obtain ⟨y, r0, rfl, hs⟩ := hz9
    have hz9 := pI_inv hs
    clear hs
    obtain ⟨x, r0, rfl, hs⟩ := hz9
    cases hs
    exact lv_iadd hx hb hdg (k H locs cells slots ls hR hS hL hc hl)
  | isub =>
    simp only [Bool.and_eq_true, decide_eq_true_eq] at he1
    simp only [ilen] at he1
    obtain ⟨hdg, rfl⟩ := he1
    simp only [stp] at hs
    have hz9 := pI_inv hs
    clear hs
    obtain ⟨y, r0, rfl, hs⟩ := hz9
    have hz9 := pI_inv hs
    clear hs
    obtain ⟨x, r0, rfl, hs⟩ := hz9
    cases hs
    exact lv_isub hx hb hdg (k H locs cells slots ls hR hS hL hc hl)
  | imul =>
    simp only [Bool.and_eq_true, decide_eq_true_eq] at he1
    simp only [ilen] at he1
    obtain ⟨hdg, rfl⟩ := he1
    simp only [stp] at hs
    have hz9 := pI_inv hs
    clear hs
    obtain ⟨y, r0, rfl, hs⟩ := hz9
    have hz9 := pI_inv hs
    clear hs
    obtain ⟨x, r0, rfl, hs⟩ := hz9
    cases hs
    exact lv_imul hx hb hdg (k H locs cells slots ls hR hS hL hc hl)
  | iand =>
    simp only [Bool.and_eq_true, decide_eq_true_eq] at he1
    simp only [ilen] at he1
    obtain ⟨hdg, rfl⟩ := he1
    simp only [stp] at hs
    have hz9 := pI_inv hs
    clear hs
    obtain ⟨y, r0, rfl, hs⟩ := hz9
    have hz9 := pI_inv hs
    clear hs
    obtain ⟨x, r0, rfl, hs⟩ := hz9
    cases hs
    exact lv_iand hx hb hdg (k H locs cells slots ls hR hS hL hc hl)
  | ior =>
    simp only [Bool.and_eq_true, decide_eq_true_eq] at he1
    simp only [ilen] at he1
    obtain ⟨hdg, rfl⟩ := he1
    simp only [stp] at hs
    have hz9 := pI_inv hs
    clear hs
    obtain ⟨y, r0, rfl, hs⟩ := hz9
    have hz9 := pI_inv hs
    clear hs
    obtain ⟨x, r0, rfl, hs⟩ := hz9
    cases hs
    exact lv_ior hx hb hdg (k H locs cells slots ls hR hS hL hc hl)
  | ishl =>
    simp only [Bool.and_eq_true, decide_eq_true_eq] at he1
    simp only [ilen] at he1
    obtain ⟨hdg, rfl⟩ := he1
    simp only [stp] at hs
    have hz9 := pI_inv hs
    clear hs
    obtain ⟨y, r0, rfl, hs⟩ := hz9
    have hz9 := pI_inv hs
    clear hs
    obtain ⟨x, r0, rfl, hs⟩ := hz9
    cases hs
    exact lv_ishl hx hb hdg (k H locs cells slots ls hR hS hL hc hl)
  | ishr =>
    simp only [Bool.and_eq_true, decide_eq_true_eq] at he1
    simp only [ilen] at he1
    obtain ⟨hdg, rfl⟩ := he1
    simp only [stp] at hs
    have hz9 := pI_inv hs
    clear hs
    obtain ⟨y, r0, rfl, hs⟩ := hz9
    have hz9 := pI_inv hs
    clear hs
    obtain ⟨x, r0, rfl, hs⟩ := hz9
    cases hs
    exact lv_ishr hx hb hdg (k H locs cells slots ls hR hS hL hc hl)
  | iushr =>
    simp only [Bool.and_eq_true, decide_eq_true_eq] at he1
    simp only [ilen] at he1
    obtain ⟨hdg, rfl⟩ := he1
    simp only [stp] at hs
    have hz9 := pI_inv hs
    clear hs
    obtain ⟨y, r0, rfl, hs⟩ := hz9
    have hz9 := pI_inv hs
    clear hs
    obtain ⟨x, r0, rfl, hs⟩ := hz9
    cases hs
    exact lv_iushr hx hb hdg rfl (k H locs cells slots ls hR hS hL hc hl)
  | idiv =>
    simp only [Bool.and_eq_true, decide_eq_true_eq] at he1
    simp only [ilen] at he1
    obtain ⟨hdg, rfl⟩ := he1
    simp only [stp] at hs
    have hz9 := pI_inv hs
    clear hs
    obtain ⟨y, r0, rfl, hs⟩ := hz9
    have hz9 := pI_inv hs
    clear hs
    obtain ⟨x, r0, rfl, hs⟩ := hz9
    have hz9 := iff'_inv hs
    clear hs
    obtain ⟨hn, hs⟩ := hz9
    cases hs
    exact lv_idiv hx hb hdg hn (k H locs cells slots ls hR hS hL hc hl)
  | irem =>
    simp only [Bool.and_eq_true, decide_eq_true_eq] at he1
    simp only [ilen] at he1
    obtain ⟨hdg, rfl⟩ := he1
    simp only [stp] at hs
    have hz9 := pI_inv hs
    clear hs
    obtain ⟨y, r0, rfl, hs⟩ := hz9
    have hz9 := pI_inv hs
    clear hs
    obtain ⟨x, r0, rfl, hs⟩ := hz9
    have hz9 := iff'_inv hs
    clear hs
    obtain ⟨hn, hs⟩ := hz9
    cases hs
    exact lv_irem hx hb hdg hn (k H locs cells slots ls hR hS hL hc hl)
  | ladd =>
    simp only [Bool.and_eq_true, decide_eq_true_eq] at he1
    simp only [ilen] at he1
    obtain ⟨hdg, rfl⟩ := he1
    simp only [stp] at hs
    have hz9 := pJ_inv hs
    clear hs
    obtain ⟨y, r0, rfl, hs⟩ := hz9
    have hz9 := pJ_inv hs
    clear hs
    obtain ⟨x, r0, rfl, hs⟩ := hz9
    cases hs
    exact lv_ladd hx hb hdg (k H locs cells slots ls hR hS hL hc hl)
  | lsub =>
    simp only [Bool.and_eq_true, decide_eq_true_eq] at he1
    simp only [ilen] at he1
    obtain ⟨hdg, rfl⟩ := he1
    simp only [stp] at hs
    have hz9 := pJ_inv hs
    clear hs
    obtain ⟨y, r0, rfl, hs⟩ := hz9
    have hz9 := pJ_inv hs
    clear hs
    obtain ⟨x, r0, rfl, hs⟩ := hz9
    cases hs
    exact lv_lsub hx hb hdg (k H locs cells slots ls hR hS hL hc hl)
  | lmul =>
    simp only [Bool.and_eq_true, decide_eq_true_eq] at he1
    simp only [ilen] at he1
    obtain ⟨hdg, rfl⟩ := he1
    simp only [stp] at hs
    have hz9 := pJ_inv hs
    clear hs
    obtain ⟨y, r0, rfl, hs⟩ := hz9
    have hz9 := pJ_inv hs
    clear hs
    obtain ⟨x, r0, rfl, hs⟩ := hz9
    cases hs
    exact lv_lmul hx hb hdg (k H locs cells slots ls hR hS hL hc hl)
  | land =>
    simp only [Bool.and_eq_true, decide_eq_true_eq] at he1
    simp only [ilen] at he1
    obtain ⟨hdg, rfl⟩ := he1
    simp only [stp] at hs
    have hz9 := pJ_inv hs
    clear hs
    obtain ⟨y, r0, rfl, hs⟩ := hz9
    have hz9 := pJ_inv hs
    clear hs
    obtain ⟨x, r0, rfl, hs⟩ := hz9
    cases hs
    exact lv_land hx hb hdg (k H locs cells slots ls hR hS hL hc hl)
  | lor =>
    simp only [Bool.and_eq_true, decide_eq_true_eq] at he1
    simp only [ilen] at he1
    obtain ⟨hdg, rfl⟩ := he1
    simp only [stp] at hs
    have hz9 := pJ_inv hs
    clear hs
    obtain ⟨y, r0, rfl, hs⟩ := hz9
    have hz9 := pJ_inv hs
    clear hs
    obtain ⟨x, r0, rfl, hs⟩ := hz9
    cases hs
    exact lv_lor hx hb hdg (k H locs cells slots ls hR hS hL hc hl)
  | lcmp =>
    simp only [Bool.and_eq_true, decide_eq_true_eq] at he1
    simp only [ilen] at he1
    obtain ⟨hdg, rfl⟩ := he1
    simp only [stp] at hs
    have hz9 := pJ_inv hs
    clear hs
    obtain ⟨y, r0, rfl, hs⟩ := hz9
    have hz9 := pJ_inv hs
    clear hs
    obtain ⟨x, r0, rfl, hs⟩ := hz9
    cases hs
    exact W.lcmp hx hb hdg (k H locs cells slots ls hR hS hL hc hl)
  | lshl =>
    simp only [Bool.and_eq_true, decide_eq_true_eq] at he1
    simp only [ilen] at he1
    obtain ⟨hdg, rfl⟩ := he1
    simp only [stp] at hs
    have hz9 := pI_inv hs
    clear hs
    obtain ⟨y, r0, rfl, hs⟩ := hz9
    have hz9 := pJ_inv hs
    clear hs
    obtain ⟨x, r0, rfl, hs⟩ := hz9
    cases hs
    exact lv_lshl hx hb hdg rfl (k H locs cells slots ls hR hS hL hc hl)
  | lshr =>
    simp only [Bool.and_eq_true, decide_eq_true_eq] at he1
    simp only [ilen] at he1
    obtain ⟨hdg, rfl⟩ := he1
    simp only [stp] at hs
    have hz9 := pI_inv hs
    clear hs
    obtain ⟨y, r0, rfl, hs⟩ := hz9
    have hz9 := pJ_inv hs
    clear hs
    obtain ⟨x, r0, rfl, hs⟩ := hz9
    cases hs
    exact lv_lshr hx hb hdg rfl (k H locs cells slots ls hR hS hL hc hl)
  | lushr =>
    simp only [Bool.and_eq_true, decide_eq_true_eq] at he1
    simp only [ilen] at he1
    obtain ⟨hdg, rfl⟩ := he1
    simp only [stp] at hs
    have hz9 := pI_inv hs
    clear hs
    obtain ⟨y, r0, rfl, hs⟩ := hz9
    have hz9 := pJ_inv hs
    clear hs
    obtain ⟨x, r0, rfl, hs⟩ := hz9
    cases hs
    exact lv_lushr hx hb hdg rfl (k H locs cells slots ls hR hS hL hc hl)
  | i2l =>
    simp only [Bool.and_eq_true, decide_eq_true_eq] at he1
    simp only [ilen] at he1
    obtain ⟨hdg, rfl⟩ := he1
    simp only [stp] at hs
    have hz9 := pI_inv hs
    clear hs
    obtain ⟨x, r0, rfl, hs⟩ := hz9
    cases hs
    exact lv_i2l hx hb hdg rfl (k H locs cells slots ls hR hS hL hc hl)
  | l2i =>
    simp only [Bool.and_eq_true, decide_eq_true_eq] at he1
    simp only [ilen] at he1
    obtain ⟨hdg, rfl⟩ := he1
    simp only [stp] at hs
    have hz9 := pJ_inv hs
    clear hs
    obtain ⟨x, r0, rfl, hs⟩ := hz9
    cases hs
    exact lv_l2i hx hb hdg rfl (k H locs cells slots ls hR hS hL hc hl)
  | i2b =>
    simp only [Bool.and_eq_true, decide_eq_true_eq] at he1
    simp only [ilen] at he1
    obtain ⟨hdg, rfl⟩ := he1
    simp only [stp] at hs
    have hz9 := pI_inv hs
    clear hs
    obtain ⟨x, r0, rfl, hs⟩ := hz9
    cases hs
    exact lv_i2b hx hb hdg rfl (k H locs cells slots ls hR hS hL hc hl)
  | dup =>
    simp only [Bool.and_eq_true, decide_eq_true_eq] at he1
    simp only [ilen] at he1
    obtain ⟨hdg, rfl⟩ := he1
    simp only [stp] at hs
    have hz9 := p1_inv hs
    clear hs
    obtain ⟨v, r, rfl, hv, hs⟩ := hz9
    cases hs
    exact lv_dup hx hb hdg hv (k H locs cells slots ls hR hS hL hc hl)
  | pop =>
    simp only [Bool.and_eq_true, decide_eq_true_eq] at he1
    simp only [ilen] at he1
    obtain ⟨hdg, rfl⟩ := he1
    simp only [stp] at hs
    have hz9 := p1_inv hs
    clear hs
    obtain ⟨v, r, rfl, hv, hs⟩ := hz9
    cases hs
    exact lv_pop hx hb hdg hv (k H locs cells slots ls hR hS hL hc hl)
  | dup_x1 =>
    simp only [Bool.and_eq_true, decide_eq_true_eq] at he1
    simp only [ilen] at he1
    obtain ⟨hdg, rfl⟩ := he1
    simp only [stp] at hs
    have hz9 := p1_inv hs
    clear hs
    obtain ⟨v, r, rfl, hv, hs⟩ := hz9
    have hz9 := p1_inv hs
    clear hs
    obtain ⟨w, r, rfl, hw, hs⟩ := hz9
    cases hs
    exact lv_dup_x1 hx hb hdg hv hw (k H locs cells slots ls hR hS hL hc hl)
  | dup_x2 =>
    simp only [Bool.and_eq_true, decide_eq_true_eq] at he1
    simp only [ilen] at he1
    obtain ⟨hdg, rfl⟩ := he1
    simp only [stp] at hs
    have hz9 := p1_inv hs
    clear hs
    obtain ⟨v, r, rfl, hv, hs⟩ := hz9
    have hz9 := p1_inv hs
    clear hs
    obtain ⟨w, r, rfl, hw, hs⟩ := hz9
    have hz9 := p1_inv hs
    clear hs
    obtain ⟨u, r, rfl, hu, hs⟩ := hz9
    cases hs
    exact lv_dup_x2 hx hb hdg hv hw hu (k H locs cells slots ls hR hS hL hc hl)
  | dup2 =>
    simp only [Bool.and_eq_true, decide_eq_true_eq] at he1
    simp only [ilen] at he1
    obtain ⟨hdg, rfl⟩ := he1
    simp only [stp] at hs
    have hz9 := p1_inv hs
    clear hs
    obtain ⟨v, r, rfl, hv, hs⟩ := hz9
    have hz9 := p1_inv hs
    clear hs
    obtain ⟨w, r, rfl, hw, hs⟩ := hz9
    cases hs
    exact lv_dup2_11 hx hb hdg hv hw (k H locs cells slots ls hR hS hL hc hl)
  | goto off =>
    simp only [Bool.and_eq_true, decide_eq_true_eq] at he1
    simp only [ilen] at he1
    obtain ⟨hdg, rfl⟩ := he1
    obtain ⟨t, r, rfl, ht⟩ := tgt1_inv he2
    cases hs
    exact lv_goto hx hb hdg ht (k H locs cells slots ls hR hS hL hc hl)
  | ifnull off =>
    simp only [Bool.and_eq_true, decide_eq_true_eq] at he1
    simp only [ilen] at he1
    obtain ⟨hdg, rfl⟩ := he1
    obtain ⟨t, r, rfl, ht⟩ := tgt1_inv he2
    simp only [stp, nI1_cons] at hs
    have hz9 := pQ_inv hs
    clear hs
    obtain ⟨x, r, rfl, hs⟩ := hz9
    cases x with
    | none => cases hs; exact lv_ifnullN hx hb hdg ht (k H locs cells slots ls hR hS hL hc hl)
    | some y => cases hs; exact lv_ifnull hx hb hdg (k H locs cells slots ls hR hS hL hc hl)
  | ifnonnull off =>
    simp only [Bool.and_eq_true, decide_eq_true_eq] at he1
    simp only [ilen] at he1
    obtain ⟨hdg, rfl⟩ := he1
    obtain ⟨t, r, rfl, ht⟩ := tgt1_inv he2
    simp only [stp, nI1_cons] at hs
    have hz9 := pQ_inv hs
    clear hs
    obtain ⟨x, r, rfl, hs⟩ := hz9
    cases x with
    | none => cases hs; exact lv_ifnonnullN hx hb hdg (k H locs cells slots ls hR hS hL hc hl)
    | some y => cases hs; exact lv_ifnonnull hx hb hdg ht (k H locs cells slots ls hR hS hL hc hl)
  | ifCond cd off =>
    simp only [Bool.and_eq_true, decide_eq_true_eq] at he1
    simp only [ilen] at he1
    obtain ⟨hdg, rfl⟩ := he1
    obtain ⟨t, r, rfl, ht⟩ := tgt1_inv he2
    simp only [stp, nI1_cons] at hs
    have hz9 := pI_inv hs
    clear hs
    obtain ⟨x, r, rfl, hs⟩ := hz9
    have k : ∀ pc'', pc'' = pc' → lv = lv' → r = st' → h = h1 → W p l e R s m args below meth c H locs cells slots Q (F0 m pc'' ls r) := by
      intro pc'' e1 e2 e3 e4
      subst e1 e2 e3 e4
      exact k H locs cells slots ls hR hS hL hc hl
    cases cd <;> simp only [Option.some.injEq, Prod.mk.injEq] at hs <;> obtain ⟨q1, q2, q3, q4⟩ := hs
    · exact lv_if_eq hx hb hdg ht (fun z => k _ (by rw [← q1, if_pos z]) q2 q3 q4) (fun z => k _ (by rw [← q1, if_neg z]) q2 q3 q4)
    · exact lv_if_ne hx hb hdg ht (fun z => k _ (by rw [← q1, if_neg z]) q2 q3 q4) (fun z => k _ (by rw [← q1, if_pos z]) q2 q3 q4)
    · exact lv_if_lt hx hb hdg ht (fun z => k _ (by rw [← q1, if_pos z]) q2 q3 q4) (fun z => k _ (by rw [← q1, if_neg z]) q2 q3 q4)
    · exact lv_if_ge hx hb hdg ht (fun z => k _ (by rw [← q1, if_pos z]) q2 q3 q4) (fun z => k _ (by rw [← q1, if_neg z]) q2 q3 q4)
    · exact lv_if_gt hx hb hdg ht (fun z => k _ (by rw [← q1, if_pos z]) q2 q3 q4) (fun z => k _ (by rw [← q1, if_neg z]) q2 q3 q4)
    · exact lv_if_le hx hb hdg ht (fun z => k _ (by rw [← q1, if_pos z]) q2 q3 q4) (fun z => k _ (by rw [← q1, if_neg z]) q2 q3 q4)
  | if_icmp cd off =>
    simp only [Bool.and_eq_true, decide_eq_true_eq] at he1
    simp only [ilen] at he1
    obtain ⟨hdg, rfl⟩ := he1
    obtain ⟨t, r, rfl, ht⟩ := tgt1_inv he2
    simp only [stp, nI1_cons] at hs
    have hz9 := pI_inv hs
    clear hs
    obtain ⟨y, r, rfl, hs⟩ := hz9
    have hz9 := pI_inv hs
    clear hs
    obtain ⟨x, r, rfl, hs⟩ := hz9
    have k : ∀ pc'', pc'' = pc' → lv = lv' → r = st' → h = h1 → W p l e R s m args below meth c H locs cells slots Q (F0 m pc'' ls r) := by
      intro pc'' e1 e2 e3 e4
      subst e1 e2 e3 e4
      exact k H locs cells slots ls hR hS hL hc hl
    cases cd <;> simp only [Option.some.injEq, Prod.mk.injEq] at hs <;> obtain ⟨q1, q2, q3, q4⟩ := hs
    · exact lv_icmp_eq hx hb hdg ht (fun z => k _ (by rw [← q1, if_pos z]) q2 q3 q4) (fun z => k _ (by rw [← q1, if_neg z]) q2 q3 q4)
    · exact lv_icmp_ne hx hb hdg ht (fun z => k _ (by rw [← q1, if_neg z]) q2 q3 q4) (fun z => k _ (by rw [← q1, if_pos z]) q2 q3 q4)
    · exact lv_icmp_lt hx hb hdg ht (fun z => k _ (by rw [← q1, if_pos z]) q2 q3 q4) (fun z => k _ (by rw [← q1, if_neg z]) q2 q3 q4)
    · exact lv_icmp_ge hx hb hdg ht (fun z => k _ (by rw [← q1, if_pos z]) q2 q3 q4) (fun z => k _ (by rw [← q1, if_neg z]) q2 q3 q4)
    · exact lv_icmp_gt hx hb hdg ht (fun z => k _ (by rw [← q1, if_pos z]) q2 q3 q4) (fun z => k _ (by rw [← q1, if_neg z]) q2 q3 q4)
    · exact lv_icmp_le hx hb hdg ht (fun z => k _ (by rw [← q1, if_pos z]) q2 q3 q4) (fun z => k _ (by rw [← q1, if_neg z]) q2 q3 q4)
  | if_acmp cd off =>
    simp only [Bool.and_eq_true, decide_eq_true_eq] at he1
    simp only [ilen] at he1
    obtain ⟨hdg, rfl⟩ := he1
    obtain ⟨t, r, rfl, ht⟩ := tgt1_inv he2
    simp only [stp, nI1_cons] at hs
    have hz9 := pQ_inv hs
    clear hs
    obtain ⟨y, r, rfl, hs⟩ := hz9
    have hz9 := pQ_inv hs
    clear hs
    obtain ⟨x, r, rfl, hs⟩ := hz9
    have k : ∀ pc'', pc'' = pc' → lv = lv' → r = st' → h = h1 → W p l e R s m args below meth c H locs cells slots Q (F0 m pc'' ls r) := by
      intro pc'' e1 e2 e3 e4
      subst e1 e2 e3 e4
      exact k H locs cells slots ls hR hS hL hc hl
    cases cd <;> simp only [Option.some.injEq, Prod.mk.injEq] at hs <;> obtain ⟨q1, q2, q3, q4⟩ := hs
    · exact lv_acmp_eq hx hb hdg ht (fun z => k _ (by rw [← q1, if_pos z]) q2 q3 q4) (fun z => k _ (by rw [← q1, if_neg z]) q2 q3 q4)
    · exact lv_acmp_ne hx hb hdg ht (fun z => k _ (by rw [← q1, if_neg z]) q2 q3 q4) (fun z => k _ (by rw [← q1, if_pos z]) q2 q3 q4)
  | tableswitch df lo hi offs =>
    simp only [Bool.and_eq_true, decide_eq_true_eq] at he1
    obtain ⟨hdg, he1⟩ := he1
    obtain ⟨t0, ts, rfl⟩ : ∃ t0 ts, ri = t0 :: ts := by
      rcases ri with _ | ⟨r, r9⟩
      · cases he1
      · exact ⟨r, r9, rfl⟩
    simp only [Bool.and_eq_true, decide_eq_true_eq] at he1
    simp only [stp] at hs
    have hz9 := pI_inv hs
    clear hs
    obtain ⟨x, r, rfl, hs⟩ := hz9
    split at hs
    · rename_i hz
      cases hs
      exact lv_tableOut hx hb hdg hz he1.1 (k H locs cells slots ls hR hS hL hc hl)
    · rename_i hz
      rw [List.getElem?_cons_succ] at hs
      cases ht : ts[(x.toInt - lo).toNat]? with
      | none => rw [ht] at hs; cases hs
      | some t =>
        rw [ht] at hs
        cases hs
        have h5 := congrArg (fun l => l[(x.toInt - lo).toNat]?) he1.2
        simp only [List.getElem?_map, ht, Option.map_some] at h5
        cases ho : offs.toList[(x.toInt - lo).toNat]? with
        | none => rw [ho] at h5; cases h5
        | some off =>
          rw [ho] at h5
          have h6 : (pc : Int) + off = (pc' : Int) := Option.some.inj h5
          exact lv_tableIn hx hb hdg (fun q => hz (Or.inl q)) (fun q => hz (Or.inr q)) (by rw [← Array.getElem?_toList]; exact ho) h6 (k H locs cells slots ls hR hS hL hc hl)
  | getfield idx =>
    simp only [Bool.and_eq_true, decide_eq_true_eq] at he1
    simp only [ilen] at he1
    obtain ⟨hdg, rfl⟩ := he1
    obtain ⟨r, ci, kf, r9, rfl⟩ : ∃ r ci kf r9, ri = r :: ci :: kf :: r9 := by
      rcases ri with _ | ⟨r, _ | ⟨ci, _ | ⟨kf, r9⟩⟩⟩
      · cases he2
      · cases he2
      · cases he2
      · exact ⟨r, ci, kf, r9, rfl⟩
    dsimp only at he2
    simp only [stp, nI3] at hs
    have hz9 := pR_inv hs
    clear hs
    obtain ⟨a, r0, rfl, hs⟩ := hz9
    have hz9 := oI_inv hs
    clear hs
    obtain ⟨cj, fs, ha, hs⟩ := hz9
    have hz9 := iff'_inv hs
    clear hs
    obtain ⟨rfl, hs⟩ := hz9
    cases hv : fs[kf]? with
    | none => rw [hv] at hs; cases hs
    | some v =>
      rw [hv] at hs
      cases hs
      cases hq : FT[r]? with
      | none => rw [hq] at he2; cases he2
      | some q =>
        obtain ⟨q1, q2, q3, q4, q5, q6⟩ := q
        rw [hq] at he2
        simp only [Option.any_some, Bool.and_eq_true, decide_eq_true_eq] at he2
        obtain ⟨⟨⟨rfl, rfl⟩, rfl⟩, rfl⟩ := he2
        exact rw_get hx hb hW hown (hR.2.2 a _ ha).2 hq hv hdg (k H locs cells slots ls hR hS hL hc hl)
  | putfield idx =>
    simp only [Bool.and_eq_true, decide_eq_true_eq] at he1
    simp only [ilen] at he1
    obtain ⟨hdg, rfl⟩ := he1
    obtain ⟨r, ci, kf, r9, rfl⟩ : ∃ r ci kf r9, ri = r :: ci :: kf :: r9 := by
      rcases ri with _ | ⟨r, _ | ⟨ci, _ | ⟨kf, r9⟩⟩⟩
      · cases he2
      · cases he2
      · cases he2
      · exact ⟨r, ci, kf, r9, rfl⟩
    obtain ⟨v, st9, rfl⟩ : ∃ v st9, st = v :: st9 := by
      rcases st with _ | ⟨v, st9⟩
      · cases hs
      · exact ⟨v, st9, rfl⟩
    dsimp only at he2
    simp only [stp, nI3] at hs
    have hz9 := pR_inv hs
    clear hs
    obtain ⟨a, r0, rfl, hs⟩ := hz9
    have hz9 := oI_inv hs
    clear hs
    obtain ⟨cj, fs, ha, hs⟩ := hz9
    have hz9 := iff'_inv hs
    clear hs
    obtain ⟨rfl, hs⟩ := hz9
    split at hs
    · rename_i ty hty
      have hz9 := iff'_inv hs
      clear hs
      obtain ⟨hv, hs⟩ := hz9
      cases hs
      cases hq : FT[r]? with
      | none => rw [hq] at he2; cases he2
      | some q =>
        obtain ⟨q1, q2, q3, q4, q5, q6⟩ := q
        rw [hq] at he2
        simp only [Option.any_some, Bool.and_eq_true, decide_eq_true_eq] at he2
        obtain ⟨⟨⟨⟨rfl, rfl⟩, rfl⟩, rfl⟩, hfin⟩ := he2
        exact rw_put hx hb hW hown hR hS ha hq hfin hini hty hv hdg (fun H1 locs1 hR1 hS1 => k H1 locs1 cells slots ls hR1 hS1 hL hc hl)
    · cases hs
  | arraylength =>
    simp only [Bool.and_eq_true, decide_eq_true_eq] at he1
    simp only [ilen] at he1
    obtain ⟨hdg, rfl⟩ := he1
    simp only [stp] at hs
    have hz9 := pR_inv hs
    clear hs
    obtain ⟨a, r0, rfl, hs⟩ := hz9
    split at hs
    · rename_i hz
      subst hz
      cases hs
      exact va_slen (A := fun q => base ≤ q) hx hb hH.2.2.1 hbl hb0 hS hdg (k H locs cells slots ls hR hS hL hc hl)
    · have hz9 := aI_inv hs
      clear hs
      obtain ⟨ty, n, f, ha, hs⟩ := hz9
      cases hs
      obtain ⟨-, ht, hcl⟩ := hR.2.2 a _ ha
      exact W.alen (n := Int32.ofNat n) hx hb hcl ((hW.2.2.1 ty ht).1 n f) (by rw [arrV_size] <;> rfl) rfl rfl hdg (k H locs cells slots ls hR hS hL hc hl)
  | iaload =>
    simp only [Bool.and_eq_true, decide_eq_true_eq] at he1
    simp only [ilen] at he1
    obtain ⟨hdg, rfl⟩ := he1
    simp only [stp] at hs
    have hz9 := pI_inv hs
    clear hs
    obtain ⟨i, r0, rfl, hs⟩ := hz9
    have hz9 := pR_inv hs
    clear hs
    obtain ⟨a, r0, rfl, hs⟩ := hz9
    split at hs
    · rename_i hz
      subst hz
      have hz9 := bI_inv hs
      clear hs
      obtain ⟨hi, hs⟩ := hz9
      cases hs
      exact va_sld (A := fun q => base ≤ q) hx hb hH.2.2.1 hbl hb0 hS hi hdg (k H locs cells slots ls hR hS hL hc hl)
    · have hz9 := aI_inv hs
      clear hs
      obtain ⟨ty, n, f, ha, hs⟩ := hz9
      obtain ⟨hba, ht, hcl⟩ := hR.2.2 a _ ha
      cases ty with
      | int =>
        have hz9 := bI_inv hs
        clear hs
        obtain ⟨hi, hs⟩ := hz9
        cases hs
        exact W.iald hx hb hcl ((hW.2.2.1 _ ht).1 n f) arr_nu (arr_in hi) (arr_rd hi) rfl rfl hdg (k H locs cells slots ls hR hS hL hc hl)
      | _ => cases hs
  | laload =>
    simp only [Bool.and_eq_true, decide_eq_true_eq] at he1
    simp only [ilen] at he1
    obtain ⟨hdg, rfl⟩ := he1
    simp only [stp] at hs
    have hz9 := pI_inv hs
    clear hs
    obtain ⟨i, r0, rfl, hs⟩ := hz9
    have hz9 := pR_inv hs
    clear hs
    obtain ⟨a, r0, rfl, hs⟩ := hz9
    have hz9 := aI_inv hs
    clear hs
    obtain ⟨ty, n, f, ha, hs⟩ := hz9
    obtain ⟨hba, ht, hcl⟩ := hR.2.2 a _ ha
    cases ty with
    | long =>
      have hz9 := bI_inv hs
      clear hs
      obtain ⟨hi, hs⟩ := hz9
      cases hs
      exact W.lald hx hb hcl ((hW.2.2.1 _ ht).1 n f) arr_nu (arr_in hi) (arr_rd hi) rfl rfl hdg (k H locs cells slots ls hR hS hL hc hl)
    | _ => cases hs
  | baload =>
    simp only [Bool.and_eq_true, decide_eq_true_eq] at he1
    simp only [ilen] at he1
    obtain ⟨hdg, rfl⟩ := he1
    simp only [stp] at hs
    have hz9 := pI_inv hs
    clear hs
    obtain ⟨i, r0, rfl, hs⟩ := hz9
    have hz9 := pR_inv hs
    clear hs
    obtain ⟨a, r0, rfl, hs⟩ := hz9
    have hz9 := aI_inv hs
    clear hs
    obtain ⟨ty, n, f, ha, hs⟩ := hz9
    obtain ⟨hba, ht, hcl⟩ := hR.2.2 a _ ha
    cases ty with
    | byte =>
      have hz9 := bI_inv hs
      clear hs
      obtain ⟨hi, hs⟩ := hz9
      cases hs
      exact W.bald hx hb hcl ((hW.2.2.1 _ ht).1 n f) arr_nu (arr_in hi) (arr_rd hi) rfl rfl hdg (k H locs cells slots ls hR hS hL hc hl)
    | boolean =>
      have hz9 := bI_inv hs
      clear hs
      obtain ⟨hi, hs⟩ := hz9
      cases hs
      exact W.zald hx hb hcl ((hW.2.2.1 _ ht).1 n f) arr_nu (arr_in hi) (arr_rd hi) rfl rfl hdg (k H locs cells slots ls hR hS hL hc hl)
    | _ => cases hs
  | aaload =>
    simp only [Bool.and_eq_true, decide_eq_true_eq] at he1
    simp only [ilen] at he1
    obtain ⟨hdg, rfl⟩ := he1
    simp only [stp] at hs
    have hz9 := pI_inv hs
    clear hs
    obtain ⟨i, r0, rfl, hs⟩ := hz9
    have hz9 := pR_inv hs
    clear hs
    obtain ⟨a, r0, rfl, hs⟩ := hz9
    have hz9 := aI_inv hs
    clear hs
    obtain ⟨ty, n, f, ha, hs⟩ := hz9
    obtain ⟨hba, ht, hcl⟩ := hR.2.2 a _ ha
    cases ty with
    | object C =>
      have hz9 := bI_inv hs
      clear hs
      obtain ⟨hi, hs⟩ := hz9
      cases hs
      exact W.aald hx hb hcl ((hW.2.2.1 _ ht).1 n f) rfl arr_nu (arr_in hi) (arr_rd hi) rfl rfl hdg (k H locs cells slots ls hR hS hL hc hl)
    | array t =>
      have hz9 := bI_inv hs
      clear hs
      obtain ⟨hi, hs⟩ := hz9
      cases hs
      exact W.aald hx hb hcl ((hW.2.2.1 _ ht).1 n f) rfl arr_nu (arr_in hi) (arr_rd hi) rfl rfl hdg (k H locs cells slots ls hR hS hL hc hl)
    | _ => cases hs
  | iastore =>
    simp only [Bool.and_eq_true, decide_eq_true_eq] at he1
    simp only [ilen] at he1
    obtain ⟨hdg, rfl⟩ := he1
    simp only [stp] at hs
    have hz9 := pI_inv hs
    clear hs
    obtain ⟨x, r0, rfl, hs⟩ := hz9
    have hz9 := pI_inv hs
    clear hs
    obtain ⟨i, r0, rfl, hs⟩ := hz9
    have hz9 := pR_inv hs
    clear hs
    obtain ⟨a, r0, rfl, hs⟩ := hz9
    have hz9 := aI_inv hs
    clear hs
    obtain ⟨ty, n, f, ha, hs⟩ := hz9
    obtain ⟨hba, ht, hcl⟩ := hR.2.2 a _ ha
    cases ty with
    | int =>
      have hz9 := bI_inv hs
      clear hs
      obtain ⟨hi, hs⟩ := hz9
      cases hs
      exact W.iast hx hb hcl ((hW.2.2.1 _ ht).1 n f) arr_nu (arr_in hi) rfl rfl hdg fun H1 e1 z oq => k H1 _ cells slots ls (hR.ast ha e1 z oq) (hS.put z oq hba) hL hc hl
    | _ => cases hs
  | lastore =>
    simp only [Bool.and_eq_true, decide_eq_true_eq] at he1
    simp only [ilen] at he1
    obtain ⟨hdg, rfl⟩ := he1
    simp only [stp] at hs
    have hz9 := pJ_inv hs
    clear hs
    obtain ⟨x, r0, rfl, hs⟩ := hz9
    have hz9 := pI_inv hs
    clear hs
    obtain ⟨i, r0, rfl, hs⟩ := hz9
    have hz9 := pR_inv hs
    clear hs
    obtain ⟨a, r0, rfl, hs⟩ := hz9
    have hz9 := aI_inv hs
    clear hs
    obtain ⟨ty, n, f, ha, hs⟩ := hz9
    obtain ⟨hba, ht, hcl⟩ := hR.2.2 a _ ha
    cases ty with
    | long =>
      have hz9 := bI_inv hs
      clear hs
      obtain ⟨hi, hs⟩ := hz9
      cases hs
      exact W.last hx hb hcl ((hW.2.2.1 _ ht).1 n f) arr_nu (arr_in hi) rfl rfl hdg fun H1 e1 z oq => k H1 _ cells slots ls (hR.ast ha e1 z oq) (hS.put z oq hba) hL hc hl
    | _ => cases hs
  | bastore =>
    simp only [Bool.and_eq_true, decide_eq_true_eq] at he1
    simp only [ilen] at he1
    obtain ⟨hdg, rfl⟩ := he1
    simp only [stp] at hs
    have hz9 := pI_inv hs
    clear hs
    obtain ⟨x, r0, rfl, hs⟩ := hz9
    have hz9 := pI_inv hs
    clear hs
    obtain ⟨i, r0, rfl, hs⟩ := hz9
    have hz9 := pR_inv hs
    clear hs
    obtain ⟨a, r0, rfl, hs⟩ := hz9
    have hz9 := aI_inv hs
    clear hs
    obtain ⟨ty, n, f, ha, hs⟩ := hz9
    obtain ⟨hba, ht, hcl⟩ := hR.2.2 a _ ha
    cases ty with
    | byte =>
      have hz9 := bI_inv hs
      clear hs
      obtain ⟨hi, hs⟩ := hz9
      cases hs
      exact W.bast hx hb hcl ((hW.2.2.1 _ ht).1 n f) arr_nu (arr_in hi) rfl rfl hdg fun H1 e1 z oq => k H1 _ cells slots ls (hR.ast ha e1 z oq) (hS.put z oq hba) hL hc hl
    | boolean =>
      have hz9 := bI_inv hs
      clear hs
      obtain ⟨hi, hs⟩ := hz9
      cases hs
      exact W.zast hx hb hcl ((hW.2.2.1 _ ht).1 n f) arr_nu (arr_in hi) rfl rfl hdg fun H1 e1 z oq => k H1 _ cells slots ls (hR.ast ha e1 z oq) (hS.put z oq hba) hL hc hl
    | _ => cases hs
  | aastore =>
    simp only [Bool.and_eq_true, decide_eq_true_eq] at he1
    simp only [ilen] at he1
    obtain ⟨hdg, rfl⟩ := he1
    simp only [stp] at hs
    have hz9 := pQ_inv hs
    clear hs
    obtain ⟨x, r0, rfl, hs⟩ := hz9
    have hz9 := pI_inv hs
    clear hs
    obtain ⟨i, r0, rfl, hs⟩ := hz9
    have hz9 := pR_inv hs
    clear hs
    obtain ⟨a, r0, rfl, hs⟩ := hz9
    have hz9 := aI_inv hs
    clear hs
    obtain ⟨ty, n, f, ha, hs⟩ := hz9
    obtain ⟨hba, ht, hcl⟩ := hR.2.2 a _ ha
    cases ty with
    | object C =>
      have hz9 := bI_inv hs
      clear hs
      obtain ⟨hi, hs⟩ := hz9
      cases x with
      | none =>
        cases hs
        exact va_WaastN (C := C) hx hb hcl ((hW.2.2.1 _ ht).1 n f) arr_nu (arr_in hi) rfl rfl hdg fun H1 e1 z oq => k H1 _ cells slots ls (hR.ast ha e1 z oq) (hS.put z oq hba) hL hc hl
      | some v =>
        have hz9 := oI_inv hs
        clear hs
        obtain ⟨cj, fs, hv, hs⟩ := hz9
        have hz9 := iff'_inv hs
        clear hs
        obtain ⟨hC, hs⟩ := hz9
        cases hs
        obtain ⟨hbv, q, h1, h2, cell, g1, g2, g3, -⟩ := hR.2.2 v _ hv
        rw [h1] at hC
        cases hC
        have hcls := (hW.2.1.1 cj q h1).2
        obtain ⟨kA, comp, k1, k2, k3, -⟩ := (hW.2.2.1 _ ht).2
        have hcomp : comp = D.1 cj := Option.some.inj (k3.symm.trans hcls.1)
        subst hcomp
        obtain ⟨kC, hkC, -⟩ := hcls.2
        exact W.aast hx hb hcl (fun q h => by cases h) arr_nu k1 k2 rfl hkC ⟨fun q => hi (Or.inl q), by rw [arrV_size]; exact Nat.not_le.mp fun q => hi (Or.inr q)⟩ g1 (fun q h => by rw [g3] at h; cases h) (by rw [g2]; exact hkC) (by rw [g2]; exact va_assign hcls) rfl rfl hdg
          fun H1 e1 z oq => k H1 _ cells slots ls (hR.ast ha e1 z oq) (hS.put z oq hba) hL hc hl
    | _ => cases hs
  | newarray at_ =>
    simp only [Bool.and_eq_true, decide_eq_true_eq] at he1
    simp only [ilen] at he1
    obtain ⟨hdg, rfl⟩ := he1
    simp only [stp] at hs
    have hz9 := pI_inv hs
    clear hs
    obtain ⟨n, r0, rfl, hs⟩ := hz9
    cases ht : newT at_ with
    | none => rw [ht] at hs; cases hs
    | some ty =>
      rw [ht] at hs
      have hz9 := iff'_inv hs
      clear hs
      obtain ⟨hn, hs⟩ := hz9
      cases hs
      have r1 : h.1 + 1 ≤ n0 + R.cells := hroom.1
      have r2 : h.2.1 + n.toNatClampNeg ≤ s0 + R.slots := hroom.2
      exact rw_newa hx hb hW hR hS ht hn (by omega) (by omega) hdg fun H1 hR1 hS1 => k H1 locs _ _ ls hR1 hS1 hL (by show cells + 1 + n0 = h.1 + 1; omega) (by show slots + n.toNatClampNeg + s0 = h.2.1 + n.toNatClampNeg; omega)
  | anewarray idx =>
    simp only [Bool.and_eq_true, decide_eq_true_eq] at he1
    simp only [ilen] at he1
    obtain ⟨hdg, rfl⟩ := he1
    obtain ⟨t, wi, wj, r9, rfl⟩ : ∃ t wi wj r9, ri = t :: wi :: wj :: r9 := by
      rcases ri with _ | ⟨t, _ | ⟨wi, _ | ⟨wj, r9⟩⟩⟩
      · cases he2
      · cases he2
      · cases he2
      · exact ⟨t, wi, wj, r9, rfl⟩
    simp only [stp, nI1_cons] at hs
    have hz9 := pI_inv hs
    clear hs
    obtain ⟨n, r0, rfl, hs⟩ := hz9
    dsimp only at he2
    split at hs
    · rename_i C ht
      rw [ht] at he2
      simp only [Bool.and_eq_true, decide_eq_true_eq] at he2
      have hz9 := iff'_inv hs
      clear hs
      obtain ⟨hn, hs⟩ := hz9
      cases hs
      have r1 : h.1 + 1 ≤ n0 + R.cells := hroom.1
      have r2 : h.2.1 + n.toNatClampNeg ≤ s0 + R.slots := hroom.2
      exact rw_anew hx hb hW hown hR hS (List.mem_of_getElem? ht) he2.1 he2.2 hn (by omega) (by omega) hdg fun H1 hR1 hS1 => k H1 locs _ _ ls hR1 hS1 hL (by show cells + 1 + n0 = h.1 + 1; omega) (by show slots + n.toNatClampNeg + s0 = h.2.1 + n.toNatClampNeg; omega)
    · cases hs
  | new idx =>
    simp only [Bool.and_eq_true, decide_eq_true_eq] at he1
    simp only [ilen] at he1
    obtain ⟨hdg, rfl⟩ := he1
    obtain ⟨ci, wi, r9, rfl⟩ : ∃ ci wi r9, ri = ci :: wi :: r9 := by
      rcases ri with _ | ⟨ci, _ | ⟨wi, r9⟩⟩
      · cases he2
      · cases he2
      · exact ⟨ci, wi, r9, rfl⟩
    dsimp only at he2
    simp only [stp, nI1_cons] at hs
    cases hv : vty[ci]? with
    | none => rw [hv] at hs; cases hs
    | some ts =>
      rw [hv] at hs
      cases hs
      cases hq : vcl[ci]? with
      | none => rw [hq] at he2; cases he2
      | some q =>
        rw [hq] at he2
        simp only [Option.any_some, decide_eq_true_eq] at he2
        have r1 : h.1 + 1 ≤ n0 + R.cells := hroom.1
        have r2 : h.2.1 + ts.length ≤ s0 + R.slots := hroom.2
        exact rw_new hx hb hW hown hR hS hq hv he2 (by omega) (by omega) hdg fun H1 hR1 hS1 => k H1 locs _ _ ls hR1 hS1 hL (by show cells + 1 + n0 = h.1 + 1; omega) (by show slots + ts.length + s0 = h.2.1 + ts.length; omega)
  | _ => cases hs
end SndS
end
section
/-! a step never takes cells or slots back -/
def Mo (h : AH) (o : Option SR) : Prop := ∀ z : SR, o = some z → h.1 ≤ z.2.2.2.1 ∧ h.2.1 ≤ z.2.2.2.2.1
theorem Mo_none {h : AH} : Mo h none := fun _ q => nomatch q
theorem Mo_keep {h : AH} {pc : Nat} {lv : List (Option Value)} {st : List Value} : Mo h (some (pc, lv, st, h)) := fun _ q => by cases q; exact ⟨Nat.le_refl _, Nat.le_refl _⟩
theorem Mo_put {h : AH} {pc : Nat} {lv : List (Option Value)} {st : List Value} {a : Nat} {o : AO} : Mo h (some (pc, lv, st, hput h a o)) := fun _ q => by cases q; exact ⟨Nat.le_refl _, Nat.le_refl _⟩
theorem Mo_new {h : AH} {pc : Nat} {lv : List (Option Value)} {st : List Value} {o : AO} {k : Nat} : Mo h (some (pc, lv, st, hnew h o k)) := fun _ q => by cases q; exact ⟨Nat.le_add_right _ _, Nat.le_add_right _ _⟩
theorem Mo_pI {h : AH} {st : List Value} {f : Int32 → List Value → Option SR} (k : ∀ x r, Mo h (f x r)) : Mo h (pI st f) := fun _ q => by obtain ⟨x, r, -, e⟩ := pI_inv q; exact k x r _ e
theorem Mo_pJ {h : AH} {st : List Value} {f : Int64 → List Value → Option SR} (k : ∀ x r, Mo h (f x r)) : Mo h (pJ st f) := fun _ q => by obtain ⟨x, r, -, e⟩ := pJ_inv q; exact k x r _ e
theorem Mo_pR {h : AH} {st : List Value} {f : Nat → List Value → Option SR} (k : ∀ x r, Mo h (f x r)) : Mo h (pR st f) := fun _ q => by obtain ⟨x, r, -, e⟩ := pR_inv q; exact k x r _ e
theorem Mo_pQ {h : AH} {st : List Value} {f : Option Nat → List Value → Option SR} (k : ∀ x r, Mo h (f x r)) : Mo h (pQ st f) := fun _ q => by obtain ⟨x, r, -, e⟩ := pQ_inv q; exact k x r _ e
theorem Mo_p1 {h : AH} {st : List Value} {f : Value → List Value → Option SR} (k : ∀ x r, Mo h (f x r)) : Mo h (p1 st f) := fun _ q => by obtain ⟨x, r, -, -, e⟩ := p1_inv q; exact k x r _ e
theorem Mo_gI {h : AH} {lv : List (Option Value)} {i : Nat} {f : Int32 → Option SR} (k : ∀ x, Mo h (f x)) : Mo h (gI lv i f) := fun _ q => by obtain ⟨x, -, e⟩ := gI_inv q; exact k x _ e
theorem Mo_gJ {h : AH} {lv : List (Option Value)} {i : Nat} {f : Int64 → Option SR} (k : ∀ x, Mo h (f x)) : Mo h (gJ lv i f) := fun _ q => by obtain ⟨x, -, e⟩ := gJ_inv q; exact k x _ e
theorem Mo_gQ {h : AH} {lv : List (Option Value)} {i : Nat} {f : Option Nat → Option SR} (k : ∀ x, Mo h (f x)) : Mo h (gQ lv i f) := fun _ q => by obtain ⟨x, -, e⟩ := gQ_inv q; exact k x _ e
theorem Mo_bI {h : AH} {i : Int32} {n : Nat} {z : Option SR} (k : Mo h z) : Mo h (bI i n z) := fun _ q => k _ (bI_inv q).2
theorem Mo_if {h : AH} {c : Prop} [Decidable c] {z : Option SR} (k : Mo h z) : Mo h (iff' c z) := fun _ q => k _ (iff'_inv q).2
theorem Mo_ite {h : AH} {c : Prop} [Decidable c] {z y : Option SR} (k : Mo h z) (k2 : Mo h y) : Mo h (if c then z else y) := by split <;> assumption
theorem Mo_aI {h h' : AH} {a : Nat} {f : FieldType → Nat → (Nat → Value) → Option SR} (k : ∀ x y z, Mo h (f x y z)) : Mo h (aI h' a f) := fun _ q => by obtain ⟨x, y, z, -, e⟩ := aI_inv q; exact k x y z _ e
theorem Mo_oI {h h' : AH} {a : Nat} {f : Nat → List Value → Option SR} (k : ∀ x y, Mo h (f x y)) : Mo h (oI h' a f) := fun _ q => by obtain ⟨x, y, -, e⟩ := oI_inv q; exact k x y _ e
theorem Mo_n1 {h : AH} {ri : List Nat} {f : Nat → Option SR} (k : ∀ x, Mo h (f x)) : Mo h (nI1 ri f) := by
  unfold nI1
  split
  · exact k _
  · exact Mo_none
theorem Mo_n3 {h : AH} {ri : List Nat} {f : Nat → Nat → Option SR} (k : ∀ x y, Mo h (f x y)) : Mo h (nI3 ri f) := by
  unfold nI3
  split
  · exact k _ _
  · exact Mo_none
theorem Mo_bd {h : AH} {α : Type} {o : Option α} {f : α → Option SR} (k : ∀ v, Mo h (f v)) : Mo h (o.bind f) := by
  cases o with
  | none => exact Mo_none
  | some v => exact k v
theorem stp_mono0 {sb sL : Nat} {sx : Nat → Int32} {nL : Nat} (ins : Instr) {nx : Nat} {ri : List Nat} {lv : List (Option Value)} {st : List Value} {h : AH} : Mo h (stp sb sL sx nL ins nx ri lv st h) := by
  cases ins with
  | ldc i => dsimp only [stp]; exact Mo_n1 fun r => by split; exact Mo_keep; exact Mo_none
  | ldc2_w i => dsimp only [stp]; exact Mo_n1 fun r => by split; exact Mo_keep; exact Mo_none
  | iload_n i => dsimp only [stp]; exact Mo_gI fun _ => Mo_keep
  | iload i => dsimp only [stp]; exact Mo_gI fun _ => Mo_keep
  | lload_n i => dsimp only [stp]; exact Mo_gJ fun _ => Mo_keep
  | lload i => dsimp only [stp]; exact Mo_gJ fun _ => Mo_keep
  | aload_n i => dsimp only [stp]; exact Mo_gQ fun _ => Mo_keep
  | aload i => dsimp only [stp]; exact Mo_gQ fun _ => Mo_keep
  | istore_n i => dsimp only [stp]; exact Mo_pI fun _ _ => Mo_if Mo_keep
  | istore i => dsimp only [stp]; exact Mo_pI fun _ _ => Mo_if Mo_keep
  | lstore_n i => dsimp only [stp]; exact Mo_pJ fun _ _ => Mo_if Mo_keep
  | lstore i => dsimp only [stp]; exact Mo_pJ fun _ _ => Mo_if Mo_keep
  | astore_n i => dsimp only [stp]; exact Mo_pQ fun _ _ => Mo_if Mo_keep
  | astore i => dsimp only [stp]; exact Mo_pQ fun _ _ => Mo_if Mo_keep
  | iinc i n => dsimp only [stp]; exact Mo_gI fun _ => Mo_if Mo_keep
  | iadd => dsimp only [stp]; exact Mo_pI fun _ _ => Mo_pI fun _ _ => Mo_keep
  | isub => dsimp only [stp]; exact Mo_pI fun _ _ => Mo_pI fun _ _ => Mo_keep
  | imul => dsimp only [stp]; exact Mo_pI fun _ _ => Mo_pI fun _ _ => Mo_keep
  | iand => dsimp only [stp]; exact Mo_pI fun _ _ => Mo_pI fun _ _ => Mo_keep
  | ior => dsimp only [stp]; exact Mo_pI fun _ _ => Mo_pI fun _ _ => Mo_keep
  | idiv => dsimp only [stp]; exact Mo_pI fun _ _ => Mo_pI fun _ _ => Mo_if Mo_keep
  | irem => dsimp only [stp]; exact Mo_pI fun _ _ => Mo_pI fun _ _ => Mo_if Mo_keep
  | ishl => dsimp only [stp]; exact Mo_pI fun _ _ => Mo_pI fun _ _ => Mo_keep
  | ishr => dsimp only [stp]; exact Mo_pI fun _ _ => Mo_pI fun _ _ => Mo_keep
  | iushr => dsimp only [stp]; exact Mo_pI fun _ _ => Mo_pI fun _ _ => Mo_keep
  | ladd => dsimp only [stp]; exact Mo_pJ fun _ _ => Mo_pJ fun _ _ => Mo_keep
  | lsub => dsimp only [stp]; exact Mo_pJ fun _ _ => Mo_pJ fun _ _ => Mo_keep
  | lmul => dsimp only [stp]; exact Mo_pJ fun _ _ => Mo_pJ fun _ _ => Mo_keep
  | land => dsimp only [stp]; exact Mo_pJ fun _ _ => Mo_pJ fun _ _ => Mo_keep
  | lor => dsimp only [stp]; exact Mo_pJ fun _ _ => Mo_pJ fun _ _ => Mo_keep
  | lcmp => dsimp only [stp]; exact Mo_pJ fun _ _ => Mo_pJ fun _ _ => Mo_keep
  | lshl => dsimp only [stp]; exact Mo_pI fun _ _ => Mo_pJ fun _ _ => Mo_keep
  | lshr => dsimp only [stp]; exact Mo_pI fun _ _ => Mo_pJ fun _ _ => Mo_keep
  | lushr => dsimp only [stp]; exact Mo_pI fun _ _ => Mo_pJ fun _ _ => Mo_keep
  | i2l => dsimp only [stp]; exact Mo_pI fun _ _ => Mo_keep
  | l2i => dsimp only [stp]; exact Mo_pJ fun _ _ => Mo_keep
  | i2b => dsimp only [stp]; exact Mo_pI fun _ _ => Mo_keep
  | dup => dsimp only [stp]; exact Mo_p1 fun _ _ => Mo_keep
  | pop => dsimp only [stp]; exact Mo_p1 fun _ _ => Mo_keep
  | dup_x1 => dsimp only [stp]; exact Mo_p1 fun _ _ => Mo_p1 fun _ _ => Mo_keep
  | dup_x2 => dsimp only [stp]; exact Mo_p1 fun _ _ => Mo_p1 fun _ _ => Mo_p1 fun _ _ => Mo_keep
  | dup2 => dsimp only [stp]; exact Mo_p1 fun _ _ => Mo_p1 fun _ _ => Mo_keep
  | goto off => dsimp only [stp]; exact Mo_n1 fun _ => Mo_keep
  | ifCond c off => dsimp only [stp]; exact Mo_n1 fun _ => Mo_pI fun _ _ => Mo_keep
  | if_icmp c off => dsimp only [stp]; exact Mo_n1 fun _ => Mo_pI fun _ _ => Mo_pI fun _ _ => Mo_keep
  | ifnull off => dsimp only [stp]; exact Mo_n1 fun _ => Mo_pQ fun _ _ => Mo_keep
  | ifnonnull off => dsimp only [stp]; exact Mo_n1 fun _ => Mo_pQ fun _ _ => Mo_keep
  | if_acmp c off => dsimp only [stp]; exact Mo_n1 fun _ => Mo_pQ fun _ _ => Mo_pQ fun _ _ => Mo_keep
  | tableswitch d lo hi offs => dsimp only [stp]; exact Mo_pI fun _ _ => Mo_ite (Mo_n1 fun _ => Mo_keep) (Mo_bd fun _ => Mo_keep)
  | getfield i => dsimp only [stp]; exact Mo_n3 fun _ _ => Mo_pR fun _ _ => Mo_oI fun _ _ => Mo_if (Mo_bd fun _ => Mo_keep)
  | putfield i =>
    dsimp only [stp]
    refine Mo_n3 fun _ _ => ?_
    split
    · exact Mo_pR fun _ _ => Mo_oI fun _ _ => Mo_if (by split; exact Mo_if Mo_put; exact Mo_none)
    · exact Mo_none
  | arraylength => dsimp only [stp]; exact Mo_pR fun _ _ => Mo_ite Mo_keep (Mo_aI fun _ _ _ => Mo_keep)
  | iaload => dsimp only [stp]; exact Mo_pI fun _ _ => Mo_pR fun _ _ => Mo_ite (Mo_bI Mo_keep) (Mo_aI fun _ _ _ => by split; exact Mo_bI Mo_keep; exact Mo_none)
  | laload => dsimp only [stp]; exact Mo_pI fun _ _ => Mo_pR fun _ _ => Mo_aI fun _ _ _ => by split; exact Mo_bI Mo_keep; exact Mo_none
  | baload => dsimp only [stp]; exact Mo_pI fun _ _ => Mo_pR fun _ _ => Mo_aI fun _ _ _ => by split; exact Mo_bI Mo_keep; exact Mo_bI Mo_keep; exact Mo_none
  | aaload => dsimp only [stp]; exact Mo_pI fun _ _ => Mo_pR fun _ _ => Mo_aI fun _ _ _ => by split; exact Mo_bI Mo_keep; exact Mo_bI Mo_keep; exact Mo_none
  | iastore => dsimp only [stp]; exact Mo_pI fun _ _ => Mo_pI fun _ _ => Mo_pR fun _ _ => Mo_aI fun _ _ _ => by split; exact Mo_bI Mo_put; exact Mo_none
  | lastore => dsimp only [stp]; exact Mo_pJ fun _ _ => Mo_pI fun _ _ => Mo_pR fun _ _ => Mo_aI fun _ _ _ => by split; exact Mo_bI Mo_put; exact Mo_none
  | bastore => dsimp only [stp]; exact Mo_pI fun _ _ => Mo_pI fun _ _ => Mo_pR fun _ _ => Mo_aI fun _ _ _ => by split; exact Mo_bI Mo_put; exact Mo_bI Mo_put; exact Mo_none
  | aastore =>
    dsimp only [stp]
    refine Mo_pQ fun _ _ => Mo_pI fun _ _ => Mo_pR fun _ _ => Mo_aI fun _ _ _ => ?_
    split
    · exact Mo_bI (by split; exact Mo_put; exact Mo_oI fun _ _ => Mo_if Mo_put)
    · exact Mo_none
  | newarray at_ => dsimp only [stp]; exact Mo_pI fun _ _ => by split; exact Mo_if Mo_new; exact Mo_none
  | anewarray i => dsimp only [stp]; exact Mo_n1 fun _ => Mo_pI fun _ _ => by split; exact Mo_if Mo_new; exact Mo_none
  | new i => dsimp only [stp]; exact Mo_n1 fun _ => by split; exact Mo_new; exact Mo_none
  | iconst n => exact Mo_keep
  | bipush n => exact Mo_keep
  | sipush n => exact Mo_keep
  | lconst n => exact Mo_keep
  | aconst_null => exact Mo_keep
  | _ => exact fun z q => by cases q
theorem stp_mono {sb sL : Nat} {sx : Nat → Int32} {nL : Nat} {ins : Instr} {nx : Nat} {ri : List Nat} {lv : List (Option Value)} {st : List Value} {h : AH} {z : SR} (hs : stp sb sL sx nL ins nx ri lv st h = some z) : h.1 ≤ z.2.2.2.1 ∧ h.2.1 ≤ z.2.2.2.2.1 := stp_mono0 ins z hs
end
