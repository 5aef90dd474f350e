section
-- ===== PART A: goes FIRST, ahead of the names: the tables' words, and 'selects' of the private methods out of them =====
/-- a private method of a class that the tables say can be made, by its rows of tables_1 -/
def lw_okq (q : MethodName × Nat) : Prop := (q.1.cls ≠ "java/lang/invoke/MethodHandle" ∧ q.1.cls ≠ "java/lang/invoke/VarHandle") ∧ Cond.instantiable q.1.cls q.2 ∈ tables_1 ∧ Cond.privateMethod q.1 ∈ tables_1 ∧ Cond.instanceMethod q.1 ∈ tables_1
theorem lw_p0 : lw_okq (⟨"TapeVault", "startAnew", "(I)V"⟩, 6) := ⟨⟨by decide +kernel, by decide +kernel⟩, List.mem_of_getElem? (i := 21) (by decide +kernel), List.mem_of_getElem? (i := 129) (by decide +kernel), List.mem_of_getElem? (i := 130) (by decide +kernel)⟩
theorem lw_p1 : lw_okq (⟨"TapeVault$Restored", "setNone", "(I)V"⟩, 8) := ⟨⟨by decide +kernel, by decide +kernel⟩, List.mem_of_getElem? (i := 91) (by decide +kernel), List.mem_of_getElem? (i := 195) (by decide +kernel), List.mem_of_getElem? (i := 196) (by decide +kernel)⟩
theorem lw_p2 : lw_okq (⟨"java/lang/Throwable", "fillInStackTrace", "(I)Ljava/lang/Throwable;"⟩, 6) := ⟨⟨by decide +kernel, by decide +kernel⟩, List.mem_of_getElem? (i := 265) (by decide +kernel), List.mem_of_getElem? (i := 263) (by decide +kernel), List.mem_of_getElem? (i := 264) (by decide +kernel)⟩
theorem lw_p3 : lw_okq (⟨"TapeVault$Tree", "takeOut", "(LTapeVault$Node;)V"⟩, 3) := ⟨⟨by decide +kernel, by decide +kernel⟩, List.mem_of_getElem? (i := 29) (by decide +kernel), List.mem_of_getElem? (i := 426) (by decide +kernel), List.mem_of_getElem? (i := 427) (by decide +kernel)⟩
theorem lw_p4 : lw_okq (⟨"TapeVault", "latestBelow", "(I)LTapeVault$Dump;"⟩, 6) := ⟨⟨by decide +kernel, by decide +kernel⟩, List.mem_of_getElem? (i := 21) (by decide +kernel), List.mem_of_getElem? (i := 453) (by decide +kernel), List.mem_of_getElem? (i := 454) (by decide +kernel)⟩
theorem lw_p5 : lw_okq (⟨"TapeVault$Writer", "writeHead", "(LTapeVault$Dump;)V"⟩, 2) := ⟨⟨by decide +kernel, by decide +kernel⟩, List.mem_of_getElem? (i := 78) (by decide +kernel), List.mem_of_getElem? (i := 536) (by decide +kernel), List.mem_of_getElem? (i := 537) (by decide +kernel)⟩
theorem lw_p6 : lw_okq (⟨"TapeVault$Volumes", "appendPosition", "()V"⟩, 5) := ⟨⟨by decide +kernel, by decide +kernel⟩, List.mem_of_getElem? (i := 52) (by decide +kernel), List.mem_of_getElem? (i := 544) (by decide +kernel), List.mem_of_getElem? (i := 545) (by decide +kernel)⟩
theorem lw_p7 : lw_okq (⟨"TapeVault$Writer", "writeMap", "()V"⟩, 2) := ⟨⟨by decide +kernel, by decide +kernel⟩, List.mem_of_getElem? (i := 78) (by decide +kernel), List.mem_of_getElem? (i := 577) (by decide +kernel), List.mem_of_getElem? (i := 578) (by decide +kernel)⟩
theorem lw_p8 : lw_okq (⟨"TapeVault$Writer", "writeIndex", "(LTapeVault$Dump;)V"⟩, 2) := ⟨⟨by decide +kernel, by decide +kernel⟩, List.mem_of_getElem? (i := 78) (by decide +kernel), List.mem_of_getElem? (i := 582) (by decide +kernel), List.mem_of_getElem? (i := 583) (by decide +kernel)⟩
theorem lw_p9 : lw_okq (⟨"TapeVault$Writer", "writeFacts", "(LTapeVault$Node;)V"⟩, 2) := ⟨⟨by decide +kernel, by decide +kernel⟩, List.mem_of_getElem? (i := 78) (by decide +kernel), List.mem_of_getElem? (i := 590) (by decide +kernel), List.mem_of_getElem? (i := 591) (by decide +kernel)⟩
theorem lw_p10 : lw_okq (⟨"TapeVault$Writer", "writeOctets", "(LTapeVault$Node;)V"⟩, 2) := ⟨⟨by decide +kernel, by decide +kernel⟩, List.mem_of_getElem? (i := 78) (by decide +kernel), List.mem_of_getElem? (i := 598) (by decide +kernel), List.mem_of_getElem? (i := 599) (by decide +kernel)⟩
theorem lw_p11 : lw_okq (⟨"TapeVault$Writer", "writeEntries", "(LTapeVault$Node;)V"⟩, 2) := ⟨⟨by decide +kernel, by decide +kernel⟩, List.mem_of_getElem? (i := 78) (by decide +kernel), List.mem_of_getElem? (i := 606) (by decide +kernel), List.mem_of_getElem? (i := 607) (by decide +kernel)⟩
theorem lw_p12 : lw_okq (⟨"TapeVault$Restored", "isReadable", "(LTapeVault$Dump;)Z"⟩, 8) := ⟨⟨by decide +kernel, by decide +kernel⟩, List.mem_of_getElem? (i := 91) (by decide +kernel), List.mem_of_getElem? (i := 656) (by decide +kernel), List.mem_of_getElem? (i := 657) (by decide +kernel)⟩
theorem lw_p13 : lw_okq (⟨"TapeVault$Volumes", "positionOfBlock", "(I)I"⟩, 5) := ⟨⟨by decide +kernel, by decide +kernel⟩, List.mem_of_getElem? (i := 52) (by decide +kernel), List.mem_of_getElem? (i := 665) (by decide +kernel), List.mem_of_getElem? (i := 666) (by decide +kernel)⟩
theorem lw_p14 : lw_okq (⟨"TapeVault$Restored", "dropUnmapped", "(LTapeVault$Dump;)V"⟩, 8) := ⟨⟨by decide +kernel, by decide +kernel⟩, List.mem_of_getElem? (i := 91) (by decide +kernel), List.mem_of_getElem? (i := 670) (by decide +kernel), List.mem_of_getElem? (i := 671) (by decide +kernel)⟩
theorem lw_p15 : lw_okq (⟨"TapeVault$Restored", "takeChanged", "(LTapeVault$Dump;)V"⟩, 8) := ⟨⟨by decide +kernel, by decide +kernel⟩, List.mem_of_getElem? (i := 91) (by decide +kernel), List.mem_of_getElem? (i := 684) (by decide +kernel), List.mem_of_getElem? (i := 685) (by decide +kernel)⟩
def lw_privs_1 : List (MethodName × Nat) := [(⟨"TapeVault", "startAnew", "(I)V"⟩, 6), (⟨"TapeVault$Restored", "setNone", "(I)V"⟩, 8), (⟨"java/lang/Throwable", "fillInStackTrace", "(I)Ljava/lang/Throwable;"⟩, 6), (⟨"TapeVault$Tree", "takeOut", "(LTapeVault$Node;)V"⟩, 3), (⟨"TapeVault", "latestBelow", "(I)LTapeVault$Dump;"⟩, 6), (⟨"TapeVault$Writer", "writeHead", "(LTapeVault$Dump;)V"⟩, 2), (⟨"TapeVault$Volumes", "appendPosition", "()V"⟩, 5), (⟨"TapeVault$Writer", "writeMap", "()V"⟩, 2), (⟨"TapeVault$Writer", "writeIndex", "(LTapeVault$Dump;)V"⟩, 2), (⟨"TapeVault$Writer", "writeFacts", "(LTapeVault$Node;)V"⟩, 2), (⟨"TapeVault$Writer", "writeOctets", "(LTapeVault$Node;)V"⟩, 2), (⟨"TapeVault$Writer", "writeEntries", "(LTapeVault$Node;)V"⟩, 2), (⟨"TapeVault$Restored", "isReadable", "(LTapeVault$Dump;)Z"⟩, 8), (⟨"TapeVault$Volumes", "positionOfBlock", "(I)I"⟩, 5), (⟨"TapeVault$Restored", "dropUnmapped", "(LTapeVault$Dump;)V"⟩, 8), (⟨"TapeVault$Restored", "takeChanged", "(LTapeVault$Dump;)V"⟩, 8)]
theorem lw_r1 : ∀ q ∈ lw_privs_1, lw_okq q := List.forall_mem_cons.mpr ⟨lw_p0, List.forall_mem_cons.mpr ⟨lw_p1, List.forall_mem_cons.mpr ⟨lw_p2, List.forall_mem_cons.mpr ⟨lw_p3, List.forall_mem_cons.mpr ⟨lw_p4, List.forall_mem_cons.mpr ⟨lw_p5, List.forall_mem_cons.mpr ⟨lw_p6, List.forall_mem_cons.mpr ⟨lw_p7, List.forall_mem_cons.mpr ⟨lw_p8, List.forall_mem_cons.mpr ⟨lw_p9, List.forall_mem_cons.mpr ⟨lw_p10, List.forall_mem_cons.mpr ⟨lw_p11, List.forall_mem_cons.mpr ⟨lw_p12, List.forall_mem_cons.mpr ⟨lw_p13, List.forall_mem_cons.mpr ⟨lw_p14, List.forall_mem_cons.mpr ⟨lw_p15, fun _ h => absurd h List.not_mem_nil⟩⟩⟩⟩⟩⟩⟩⟩⟩⟩⟩⟩⟩⟩⟩⟩
theorem lw_p16 : lw_okq (⟨"TapeVault$Restored", "takeNode", "(III)V"⟩, 8) := ⟨⟨by decide +kernel, by decide +kernel⟩, List.mem_of_getElem? (i := 91) (by decide +kernel), List.mem_of_getElem? (i := 692) (by decide +kernel), List.mem_of_getElem? (i := 693) (by decide +kernel)⟩
theorem lw_p17 : lw_okq (⟨"TapeVault$Restored", "wholeBlocks", "(LTapeVault$Dump;)I"⟩, 8) := ⟨⟨by decide +kernel, by decide +kernel⟩, List.mem_of_getElem? (i := 91) (by decide +kernel), List.mem_of_getElem? (i := 697) (by decide +kernel), List.mem_of_getElem? (i := 698) (by decide +kernel)⟩
theorem lw_p18 : lw_okq (⟨"TapeVault$Restored", "countLost", "()I"⟩, 8) := ⟨⟨by decide +kernel, by decide +kernel⟩, List.mem_of_getElem? (i := 91) (by decide +kernel), List.mem_of_getElem? (i := 701) (by decide +kernel), List.mem_of_getElem? (i := 702) (by decide +kernel)⟩
theorem lw_p19 : lw_okq (⟨"TapeVault", "viewOf", "(Z)LTapeVault$View;"⟩, 6) := ⟨⟨by decide +kernel, by decide +kernel⟩, List.mem_of_getElem? (i := 21) (by decide +kernel), List.mem_of_getElem? (i := 712) (by decide +kernel), List.mem_of_getElem? (i := 713) (by decide +kernel)⟩
theorem lw_p20 : lw_okq (⟨"TapeVault$Restored", "wasRead", "(II)Z"⟩, 8) := ⟨⟨by decide +kernel, by decide +kernel⟩, List.mem_of_getElem? (i := 91) (by decide +kernel), List.mem_of_getElem? (i := 749) (by decide +kernel), List.mem_of_getElem? (i := 750) (by decide +kernel)⟩
theorem lw_p21 : lw_okq (⟨"TapeVaultModel", "fails", "(ZI)Z"⟩, 48) := ⟨⟨by decide +kernel, by decide +kernel⟩, List.mem_of_getElem? (i := 788) (by decide +kernel), List.mem_of_getElem? (i := 806) (by decide +kernel), List.mem_of_getElem? (i := 807) (by decide +kernel)⟩
theorem lw_p22 : lw_okq (⟨"TapeVaultModel", "is", "(II)Z"⟩, 48) := ⟨⟨by decide +kernel, by decide +kernel⟩, List.mem_of_getElem? (i := 788) (by decide +kernel), List.mem_of_getElem? (i := 964) (by decide +kernel), List.mem_of_getElem? (i := 965) (by decide +kernel)⟩
theorem lw_p23 : lw_okq (⟨"TapeVaultModel", "named", "(II)I"⟩, 48) := ⟨⟨by decide +kernel, by decide +kernel⟩, List.mem_of_getElem? (i := 788) (by decide +kernel), List.mem_of_getElem? (i := 968) (by decide +kernel), List.mem_of_getElem? (i := 969) (by decide +kernel)⟩
theorem lw_p24 : lw_okq (⟨"TapeVaultModel", "entries", "(I)I"⟩, 48) := ⟨⟨by decide +kernel, by decide +kernel⟩, List.mem_of_getElem? (i := 788) (by decide +kernel), List.mem_of_getElem? (i := 989) (by decide +kernel), List.mem_of_getElem? (i := 990) (by decide +kernel)⟩
theorem lw_p25 : lw_okq (⟨"TapeVaultModel", "changed", "(II)Z"⟩, 48) := ⟨⟨by decide +kernel, by decide +kernel⟩, List.mem_of_getElem? (i := 788) (by decide +kernel), List.mem_of_getElem? (i := 997) (by decide +kernel), List.mem_of_getElem? (i := 998) (by decide +kernel)⟩
theorem lw_p26 : lw_okq (⟨"TapeVaultModel", "record", "(I)V"⟩, 48) := ⟨⟨by decide +kernel, by decide +kernel⟩, List.mem_of_getElem? (i := 788) (by decide +kernel), List.mem_of_getElem? (i := 1007) (by decide +kernel), List.mem_of_getElem? (i := 1008) (by decide +kernel)⟩
theorem lw_p27 : lw_okq (⟨"TapeVaultModel", "isWritten", "(II)Z"⟩, 48) := ⟨⟨by decide +kernel, by decide +kernel⟩, List.mem_of_getElem? (i := 788) (by decide +kernel), List.mem_of_getElem? (i := 1015) (by decide +kernel), List.mem_of_getElem? (i := 1016) (by decide +kernel)⟩
theorem lw_p28 : lw_okq (⟨"TapeVaultModel", "place", "(II)I"⟩, 48) := ⟨⟨by decide +kernel, by decide +kernel⟩, List.mem_of_getElem? (i := 788) (by decide +kernel), List.mem_of_getElem? (i := 1019) (by decide +kernel), List.mem_of_getElem? (i := 1020) (by decide +kernel)⟩
theorem lw_p29 : lw_okq (⟨"TapeVaultModel", "put", "(II)V"⟩, 48) := ⟨⟨by decide +kernel, by decide +kernel⟩, List.mem_of_getElem? (i := 788) (by decide +kernel), List.mem_of_getElem? (i := 1027) (by decide +kernel), List.mem_of_getElem? (i := 1028) (by decide +kernel)⟩
theorem lw_p30 : lw_okq (⟨"TapeVaultModel", "make", "(I)V"⟩, 48) := ⟨⟨by decide +kernel, by decide +kernel⟩, List.mem_of_getElem? (i := 788) (by decide +kernel), List.mem_of_getElem? (i := 1031) (by decide +kernel), List.mem_of_getElem? (i := 1032) (by decide +kernel)⟩
theorem lw_p31 : lw_okq (⟨"TapeVaultModel", "many", "(I)I"⟩, 48) := ⟨⟨by decide +kernel, by decide +kernel⟩, List.mem_of_getElem? (i := 788) (by decide +kernel), List.mem_of_getElem? (i := 1035) (by decide +kernel), List.mem_of_getElem? (i := 1036) (by decide +kernel)⟩
def lw_privs_2 : List (MethodName × Nat) := [(⟨"TapeVault$Restored", "takeNode", "(III)V"⟩, 8), (⟨"TapeVault$Restored", "wholeBlocks", "(LTapeVault$Dump;)I"⟩, 8), (⟨"TapeVault$Restored", "countLost", "()I"⟩, 8), (⟨"TapeVault", "viewOf", "(Z)LTapeVault$View;"⟩, 6), (⟨"TapeVault$Restored", "wasRead", "(II)Z"⟩, 8), (⟨"TapeVaultModel", "fails", "(ZI)Z"⟩, 48), (⟨"TapeVaultModel", "is", "(II)Z"⟩, 48), (⟨"TapeVaultModel", "named", "(II)I"⟩, 48), (⟨"TapeVaultModel", "entries", "(I)I"⟩, 48), (⟨"TapeVaultModel", "changed", "(II)Z"⟩, 48), (⟨"TapeVaultModel", "record", "(I)V"⟩, 48), (⟨"TapeVaultModel", "isWritten", "(II)Z"⟩, 48), (⟨"TapeVaultModel", "place", "(II)I"⟩, 48), (⟨"TapeVaultModel", "put", "(II)V"⟩, 48), (⟨"TapeVaultModel", "make", "(I)V"⟩, 48), (⟨"TapeVaultModel", "many", "(I)I"⟩, 48)]
theorem lw_r2 : ∀ q ∈ lw_privs_2, lw_okq q := List.forall_mem_cons.mpr ⟨lw_p16, List.forall_mem_cons.mpr ⟨lw_p17, List.forall_mem_cons.mpr ⟨lw_p18, List.forall_mem_cons.mpr ⟨lw_p19, List.forall_mem_cons.mpr ⟨lw_p20, List.forall_mem_cons.mpr ⟨lw_p21, List.forall_mem_cons.mpr ⟨lw_p22, List.forall_mem_cons.mpr ⟨lw_p23, List.forall_mem_cons.mpr ⟨lw_p24, List.forall_mem_cons.mpr ⟨lw_p25, List.forall_mem_cons.mpr ⟨lw_p26, List.forall_mem_cons.mpr ⟨lw_p27, List.forall_mem_cons.mpr ⟨lw_p28, List.forall_mem_cons.mpr ⟨lw_p29, List.forall_mem_cons.mpr ⟨lw_p30, List.forall_mem_cons.mpr ⟨lw_p31, fun _ h => absurd h List.not_mem_nil⟩⟩⟩⟩⟩⟩⟩⟩⟩⟩⟩⟩⟩⟩⟩⟩
theorem lw_p32 : lw_okq (⟨"TapeVaultModel", "indexes", "(I)I"⟩, 48) := ⟨⟨by decide +kernel, by decide +kernel⟩, List.mem_of_getElem? (i := 788) (by decide +kernel), List.mem_of_getElem? (i := 1039) (by decide +kernel), List.mem_of_getElem? (i := 1040) (by decide +kernel)⟩
theorem lw_p33 : lw_okq (⟨"TapeVaultModel", "contents", "(I)I"⟩, 48) := ⟨⟨by decide +kernel, by decide +kernel⟩, List.mem_of_getElem? (i := 788) (by decide +kernel), List.mem_of_getElem? (i := 1044) (by decide +kernel), List.mem_of_getElem? (i := 1045) (by decide +kernel)⟩
theorem lw_p34 : lw_okq (⟨"TapeVaultModel", "node", "(II)V"⟩, 48) := ⟨⟨by decide +kernel, by decide +kernel⟩, List.mem_of_getElem? (i := 788) (by decide +kernel), List.mem_of_getElem? (i := 1048) (by decide +kernel), List.mem_of_getElem? (i := 1049) (by decide +kernel)⟩
theorem lw_p35 : lw_okq (⟨"TapeVaultModel", "head", "(I)I"⟩, 48) := ⟨⟨by decide +kernel, by decide +kernel⟩, List.mem_of_getElem? (i := 788) (by decide +kernel), List.mem_of_getElem? (i := 1056) (by decide +kernel), List.mem_of_getElem? (i := 1057) (by decide +kernel)⟩
theorem lw_p36 : lw_okq (⟨"TapeVaultModel", "one", "(I)V"⟩, 48) := ⟨⟨by decide +kernel, by decide +kernel⟩, List.mem_of_getElem? (i := 788) (by decide +kernel), List.mem_of_getElem? (i := 1060) (by decide +kernel), List.mem_of_getElem? (i := 1061) (by decide +kernel)⟩
theorem lw_p37 : lw_okq (⟨"TapeVaultModel", "back", "(II)V"⟩, 48) := ⟨⟨by decide +kernel, by decide +kernel⟩, List.mem_of_getElem? (i := 788) (by decide +kernel), List.mem_of_getElem? (i := 1064) (by decide +kernel), List.mem_of_getElem? (i := 1065) (by decide +kernel)⟩
def lw_privs_3 : List (MethodName × Nat) := [(⟨"TapeVaultModel", "indexes", "(I)I"⟩, 48), (⟨"TapeVaultModel", "contents", "(I)I"⟩, 48), (⟨"TapeVaultModel", "node", "(II)V"⟩, 48), (⟨"TapeVaultModel", "head", "(I)I"⟩, 48), (⟨"TapeVaultModel", "one", "(I)V"⟩, 48), (⟨"TapeVaultModel", "back", "(II)V"⟩, 48)]
theorem lw_r3 : ∀ q ∈ lw_privs_3, lw_okq q := List.forall_mem_cons.mpr ⟨lw_p32, List.forall_mem_cons.mpr ⟨lw_p33, List.forall_mem_cons.mpr ⟨lw_p34, List.forall_mem_cons.mpr ⟨lw_p35, List.forall_mem_cons.mpr ⟨lw_p36, List.forall_mem_cons.mpr ⟨lw_p37, fun _ h => absurd h List.not_mem_nil⟩⟩⟩⟩⟩⟩
def lw_privs : List (MethodName × Nat) := lw_privs_1 ++ (lw_privs_2 ++ (lw_privs_3))
def lw_tbl : List Cond := k2_sels lw_privs ++ tables_1
theorem lw_privs_ok : ∀ q ∈ lw_privs, lw_okq q := by
  show ∀ q ∈ lw_privs_1 ++ (lw_privs_2 ++ (lw_privs_3)), lw_okq q
  exact List.forall_mem_append.mpr ⟨lw_r1, List.forall_mem_append.mpr ⟨lw_r2, lw_r3⟩⟩
-- ===== end of PART A; then your names; then what follows =====
end
section
/-! ===== BEGIN words of one list among another's, by their places ===== -/
theorem goodIn_r {big : List Cond} (ws : List Cond) (ps : List Nat) (hp : ws = ps.filterMap (fun i => big[i]?)) (h : ws.all goodWord = true) : GoodIn big ws := by
  intro w hw
  have h1 := List.all_eq_true.mp h w hw
  rw [hp] at hw
  obtain ⟨i, -, hi⟩ := List.mem_filterMap.mp hw
  have hm : w ∈ big := by first | exact List.mem_of_getElem? hi | exact List.getElem?_mem hi
  exact ⟨hm, good_of_word h1⟩
theorem goodIn_app {big a b : List Cond} (ha : GoodIn big a) (hb : GoodIn big b) : GoodIn big (a ++ b) := fun w h => (List.mem_append.mp h).elim (ha w) (hb w)
theorem goodIn_ca {big a b : List Cond} {c : Cond} (ha : GoodIn big (c :: a)) (hb : GoodIn big b) : GoodIn big (c :: (a ++ b)) := fun w h => (List.mem_cons.mp h).elim (fun e => ha w (List.mem_cons.mpr (Or.inl e))) (fun h => (List.mem_append.mp h).elim (fun h => ha w (List.mem_cons.mpr (Or.inr h))) (hb w))
theorem goodIn_sub {big ws : List Cond} (hm : ∀ w ∈ ws, w ∈ big) (h : ws.all goodWord = true) : GoodIn big ws := fun w hw => ⟨hm w hw, good_of_word (List.all_eq_true.mp h w hw)⟩
/-! ===== END ===== -/

/-! ===== BEGIN exceptions that leave a method, and their catching by the caller (launches without stack traces) ===== -/
section VXA
/-! The laws vx_back, vx_callV, vx_callS, vx_callSW, vx_throw0, vx_throwS follow proofs of the library, with one case more: JvmDerived/Free/Laws.lean (Back.of_free), Shelf42/LK1.lean (callV, callS), Shelf/KitTraced.lean (throwNew0V, throwNewS). -/
/-- where a method has thrown q: the class by its name, the cell, what was written, the world -/
def vx_T (XC : String → State → State → Prop) (st : State) (q : Addr) (t : State) (mc ms : Nat) (free : Addr → Prop) : Prop :=
  ∃ (E : String) (ce : Cell) (L : List Loc), XC E st t ∧ t.heap[q]? = some ce ∧ ce.vm = .none ∧ st.vm.findClass E = some ce.cls ∧ st.WarmedH t.vm ∧ st.sameButNew ({ t with vm := st.vm } : State) L mc ms ∧ ∀ z ∈ L, free z.base
def vx_Q (Qc : Array Value → State → Outcome → State → Prop) (XC : String → State → State → Prop) (mc ms : Nat) (free : Addr → Prop) : Array Value → State → Outcome → State → Prop := fun a st o t =>
  (Qc a st o t ∧ ∃ L, FrameEnd st o t L mc ms ∧ ∀ q ∈ L, free q.base) ∨ ∃ q, o = .threw q ∧ vx_T XC st q t mc ms free
/-- a callee that returns or throws -/
def vx_Met (l : Launch) (y : MethodName) (ws : List Cond) (rm : Room) (Pc : Array Value → State → Prop) (Qc : Array Value → State → Outcome → State → Prop) (XC : String → State → State → Prop) (mc ms : Nat) (free : Addr → Prop) : Prop :=
  MetFree l y (headSpec ws rm) Pc (fun _ _ _ _ _ => True) (vx_Q Qc XC mc ms free)
def vx_Post (XC : String → State → State → Prop) (mc ms : Nat) (free : Addr → Prop) : Pt → Array Value → Addr → Pt → Prop := fun A a q B =>
  ∃ (g : JFrame) (mk : MethodId) (t : State) (L : List Loc) (E : String) (ce : Cell), B.U.heap = t.heap ∧ B.U.vm = t.vm ∧ XC E (A.U.calling g mk a) t ∧ t.heap[q]? = some ce ∧ ce.vm = .none ∧ A.U.vm.findClass E = some ce.cls ∧ B.locs = A.locs ++ L ∧ (∀ z ∈ L, free z.base) ∧ B.cells = A.cells + mc ∧ B.slots = A.slots + ms
def vx_Back (l : Launch) (R : Room) (p : Program) (e : Env) (below : List Frame) (s : State) (sargs : Array Value) (y : MethodName) (len W9 : Nat)
    (Pre : Pt → Array Value → Prop) (Post : Pt → Array Value → Option Value → Pt → Prop) (PostX : Pt → Array Value → Addr → Pt → Prop) : Prop :=
  ∀ (m : MethodId) (meth : Method) (c : Code) (A : Pt) (g : JFrame) (ig : Instr) (mk : MethodId) (a : Array Value),
    Stand p l e R s m sargs below meth c A.U A.locs A.cells A.slots → g.method = m → g.locals.size = c.maxLocals → decode c.code g.pc = .ok (ig, len) →
    2 * g.monitorRoom + (g.stack.map fun v => v.category).sum ≤ W9 → A.U.methodNamed? y = some mk → Pre A a →
    (∃ (v : Option Value) (B : Pt), Stand p l e R s m sargs below meth c B.U B.locs B.cells B.slots ∧ Post A a v B ∧
      Steps p.tables e below (doInvoke e (A.U.setTop g) [] mk a).1 (B.U.setTop { g with pc := g.pc + len, stack := v.toList ++ g.stack })) ∨
    (∃ (q : Addr) (B : Pt), Stand p l e R s m sargs below meth c B.U B.locs B.cells B.slots ∧ PostX A a q B ∧
      Steps p.tables e below (doInvoke e (A.U.setTop g) [] mk a).1 ((B.U.setTop g).pushFrame (.throwing q)))
section Payer
variable {l : Launch} {R : Room} {p : Program} {e : Env} {below : List Frame} {s : State} {sargs : Array Value} {y : MethodName} {len W9 : Nat}
theorem vx_back {ws : List Cond} {rm : Room} {Pc : Array Value → State → Prop} {Qc : Array Value → State → Outcome → State → Prop} {XC : String → State → State → Prop} {mc ms : Nat} {free : Addr → Prop} {bytes : ByteArray} {maxL : Nat} {ret : Option FieldType}
    (hM : vx_Met l y ws rm Pc Qc XC mc ms free) (hblind : FrameBlind Pc) (hrc : rm.cells = mc) (hrs : rm.slots = ms)
    (hframes : rm.frames + 1 ≤ R.frames) (hlocals : W9 + (maxL + 11) + rm.locals ≤ R.locals)
    (hws : ∀ w ∈ ws, ∀ a' U, s.WarmedH U.vm → w.before a' U = true) (hcode : Cond.code y bytes maxL ret ∈ ws) (hinit : ∀ a' U, s.WarmedH U.vm → (Cond.initialized y.cls).before a' U = true) :
    vx_Back l R p e below s sargs y len W9 (PreOf R mc ms Pc) (PostOf Qc mc ms free) (vx_Post XC mc ms free) := by
  intro m meth c A g ig mk a X hg hsize hdg hW hn hp
  have h1 : (headSpec ws rm).pre.before a A.U = true := atoms_intro fun w hw => hws w hw _ _ X.warmed
  have h2 : (Cond.code y bytes maxL ret).before a A.U = true := hws _ hcode _ _ X.warmed
  have h3 : (Cond.initialized y.cls).before a A.U = true := hinit _ _ X.warmed
  have h4 : A.cells + (headSpec ws rm).room.cells ≤ R.cells := by rw [show (headSpec ws rm).room.cells = mc from hrc]; exact hp.1
  have h5 : A.slots + (headSpec ws rm).room.slots ≤ R.slots := by rw [show (headSpec ws rm).room.slots = ms from hrs]; exact hp.2.1
  have hPc : Pc a (A.U.calling g mk a) := hblind _ _ _ _ hp.2.2
  obtain ⟨U, Ls, c0, s0⟩ := A
  dsimp only [Pt.U, Pt.locs, Pt.cells, Pt.slots] at h1 h2 h3 h4 h5 X hn hPc ⊢
  obtain ⟨methY, cY, hmY, hcY, -, hlY, -, -, -, -⟩ := Cond.code_spec hn h2
  obtain ⟨kY, hkY, -⟩ := className_of_methodNamed hn
  have hinitY : kY.init = .initialized := Cond.initialized_spec (findClass_of_methodNamed hn) hkY h3
  have h : At U g.method c below := by rw [hg]; exact X.here
  have hlocals9 : W9 + (maxL + 11) + (headSpec ws rm).room.locals ≤ R.locals := hlocals
  have happ : (headSpec ws rm).appliesLoose y e.platform (U.calling g mk a) = true :=
    Spec.appliesLoose_calling (g := g) h hdg hn hkY hinitY
      (X.room_calling (g := g) (R' := (headSpec ws rm).room) hsize hmY hcY hframes (by rw [hlY]; omega) h4 h5) h1
  obtain ⟨mid, hmid⟩ := h.above
  have hfr : (U.setTop g).frames = (.java g :: mid) ++ below := by rw [State.frames_setTop' g h.top, hmid]; rfl
  obtain ⟨o, s₂, hsteps, -, hend, hq⟩ := Steps.callFree hM p X.admits X.cas X.clock (acts := []) hfr happ hPc trivial
  have hq' : vx_Q Qc XC mc ms free a (U.calling g mk a) o s₂ := hq
  rw [State.frames_setTop' g h.top] at hend
  obtain ⟨g₀, hg0⟩ := Option.isSome_iff_exists.mp h.top
  obtain ⟨r, hr⟩ := State.topJava?_eq_some.mp hg0
  have hr' : (({ U with heap := s₂.heap, slotsUsed := s₂.slotsUsed } : State).setVm s₂.vm).frames = .java g₀ :: r := hr
  rcases hq' with ⟨hqc, L, hfe, hL⟩ | ⟨q, rfl, E, ce, L, hx, hce, hcv, hcl, hW₂, hsm, hL⟩
  · obtain ⟨⟨v, rfl⟩, hW₂, e2, q2, q3, q4, q5, q6⟩ := id hfe
    have e3 : s₂ = ({ (U.calling g mk a).setFrames s₂.frames with heap := s₂.heap, slotsUsed := s₂.slotsUsed } : State).setVm s₂.vm := by
      have : s₂ = ({ s₂ with vm := (U.calling g mk a).vm } : State).setVm s₂.vm := rfl
      rw [e2] at this
      exact this
    obtain ⟨c₂, i₂, len₂, hc₂, hd₂, hf₂⟩ := hend
    have hW' : U.WarmedH s₂.vm := hW₂
    have hcc : c₂ = c := by
      have h1 : s₂.code? g.method = U.code? g.method := by
        rw [State.code?_eq, State.code?_eq, hW'.alike.method?]
      exact Option.some.inj (hc₂.symm.trans (h1.trans h.code))
    subst hcc
    have hlen : len₂ = len := by rw [hdg] at hd₂; cases hd₂; rfl
    subst hlen
    have hs₂ : s₂ = (({ U with heap := s₂.heap, slotsUsed := s₂.slotsUsed } : State).setVm s₂.vm).setTop { g with pc := g.pc + len₂, stack := v.toList ++ g.stack } := by
      refine e3.trans ?_
      rw [hf₂, State.calling_eq h.top, State.setFrames_setFrames, State.setTop_of_frames _ hr', hr]
      rfl
    have hsame : U.sameButNew ({ U with heap := s₂.heap, slotsUsed := s₂.slotsUsed } : State) L mc ms := by
      refine ⟨?_, q2, q3, q4, q5, q6⟩
      obtain ⟨t, ht, -⟩ := State.frames_cons hr
      show ({ U with heap := s₂.heap, slotsUsed := s₂.slotsUsed } : State) = { U.setFrames U.frames with heap := s₂.heap, slotsUsed := s₂.slotsUsed }
      rw [State.setFrames_self ht]
    subst hg
    refine Or.inl ⟨v, ⟨(({ U with heap := s₂.heap, slotsUsed := s₂.slotsUsed } : State).setVm s₂.vm), Ls ++ L, c0 + mc, s0 + ms⟩,
      ⟨X.admits, X.cas, X.clock, X.frames, X.room, X.hears, X.method, X.code, (X.here.setHeapUsed s₂.heap s₂.slotsUsed).setVm hW'.alike, X.tail, State.WarmedH.trans X.warmed hW', X.limits, X.bytes, X.same.trans (hsame.setVm s.vm)⟩,
      ⟨g, mk, s₂, L, rfl, rfl, hqc, rfl, hL, rfl, rfl⟩, ?_⟩
    show Steps p.tables e below _ ((({ U with heap := s₂.heap, slotsUsed := s₂.slotsUsed } : State).setVm s₂.vm).setTop { g with pc := g.pc + len₂, stack := v.toList ++ g.stack })
    rw [← hs₂]
    exact hsteps
  · obtain ⟨e2, q2, q3, q4, q5, q6⟩ := id hsm
    have e3 : s₂ = ({ (U.calling g mk a).setFrames s₂.frames with heap := s₂.heap, slotsUsed := s₂.slotsUsed } : State).setVm s₂.vm := by
      have : s₂ = ({ s₂ with vm := (U.calling g mk a).vm } : State).setVm s₂.vm := rfl
      rw [e2] at this
      exact this
    have hf₂ : s₂.frames = .throwing q :: .java g :: U.frames.tail := hend
    have hW' : U.WarmedH s₂.vm := hW₂
    have hs₂ : s₂ = ((({ U with heap := s₂.heap, slotsUsed := s₂.slotsUsed } : State).setVm s₂.vm).setTop g).pushFrame (.throwing q) := by
      refine e3.trans ?_
      rw [hf₂, State.calling_eq h.top, State.setFrames_setFrames, State.pushFrame, State.frames_setTop _ hr', State.setTop_of_frames _ hr', State.setFrames_setFrames, hr]
      rfl
    have hsame : U.sameButNew ({ U with heap := s₂.heap, slotsUsed := s₂.slotsUsed } : State) L mc ms := by
      refine ⟨?_, q2, q3, q4, q5, q6⟩
      obtain ⟨t, ht, -⟩ := State.frames_cons hr
      show ({ U with heap := s₂.heap, slotsUsed := s₂.slotsUsed } : State) = { U.setFrames U.frames with heap := s₂.heap, slotsUsed := s₂.slotsUsed }
      rw [State.setFrames_self ht]
    subst hg
    refine Or.inr ⟨q, ⟨(({ U with heap := s₂.heap, slotsUsed := s₂.slotsUsed } : State).setVm s₂.vm), Ls ++ L, c0 + mc, s0 + ms⟩,
      ⟨X.admits, X.cas, X.clock, X.frames, X.room, X.hears, X.method, X.code, (X.here.setHeapUsed s₂.heap s₂.slotsUsed).setVm hW'.alike, X.tail, State.WarmedH.trans X.warmed hW', X.limits, X.bytes, X.same.trans (hsame.setVm s.vm)⟩,
      ⟨g, mk, s₂, L, E, ce, rfl, rfl, hx, hce, hcv, hcl, rfl, hL, rfl, rfl⟩, ?_⟩
    show Steps p.tables e below _ (((({ U with heap := s₂.heap, slotsUsed := s₂.slotsUsed } : State).setVm s₂.vm).setTop g).pushFrame (.throwing q))
    rw [← hs₂]
    exact hsteps
end Payer
section Calls
variable {p : Program} {l : Launch} {e : Env} {R : Room} {s : State} {m : MethodId} {args : Array Value} {below : List Frame} {meth : Method} {c : Code} {T : State} {locs : List Loc} {cells slots : Nat}
theorem vx_callV (X : Stand p l e R s m args below meth c T locs cells slots) (hexec : p.tables.exec = Jvm.exec) {own C : String} {index : Nat} {y : MethodName} {bytes : ByteArray} {maxL : Nat} {ret : Option FieldType}
    (hown : s.vm.findClass own = some m.cls) (hlink : (Cond.methodLink own index y).before args s = true) (hinst : (Cond.instanceMethod y).before args s = true) (hsel : (Cond.selects C y y).before args s = true)
    (hcode : (Cond.code y bytes maxL ret).before args s = true) (hy : y.cls ≠ "java/lang/invoke/MethodHandle" ∧ y.cls ≠ "java/lang/invoke/VarHandle")
    {W9 : Nat} {Pre : Pt → Array Value → Prop} {Post : Pt → Array Value → Option Value → Pt → Prop} {PostX : Pt → Array Value → Addr → Pt → Prop} (hK : vx_Back l R p e below s args y 3 W9 Pre Post PostX)
    {b : Addr} {cellB : Cell} (hcell : T.heap[b]? = some cellB) (hobj : cellB.vm.isStatics = false) (hcls : s.vm.findClass C = some cellB.cls)
    {g : JFrame} (hg : g.method = m) (hsize : g.locals.size = c.maxLocals) {argsL rest : List Value} (hlen : ∀ sig, parseMethodDescriptor y.desc = some sig → argsL.length = sig.parameters.length)
    (hstack : g.stack = argsL.reverse ++ .ref b :: rest) (hW : 2 * g.monitorRoom + (rest.map fun v => v.category).sum ≤ W9) (hdg : decode c.code g.pc = .ok (.invokevirtual index, 3))
    (hpre : ∀ vm₁, s.WarmedH vm₁ → Pre ⟨T.setVm vm₁, locs, cells, slots⟩ (Value.ref b :: argsL).toArray) :
    (∃ (v : Option Value) (vm₁ : Vm) (B : Pt), s.WarmedH vm₁ ∧ Stand p l e R s m args below meth c B.U B.locs B.cells B.slots ∧ Post ⟨T.setVm vm₁, locs, cells, slots⟩ (Value.ref b :: argsL).toArray v B ∧
      ∀ target, Steps p.tables e below (B.U.setTop { g with pc := g.pc + 3, stack := v.toList ++ rest }) target → Steps p.tables e below (T.setTop g) target) ∨
    (∃ (q : Addr) (vm₁ : Vm) (B : Pt), s.WarmedH vm₁ ∧ Stand p l e R s m args below meth c B.U B.locs B.cells B.slots ∧ PostX ⟨T.setVm vm₁, locs, cells, slots⟩ (Value.ref b :: argsL).toArray q B ∧
      Steps p.tables e below (T.setTop g) ((B.U.setTop { g with stack := rest }).pushFrame (.throwing q))) := by
  obtain ⟨mk, methM, hnamed, hmethM, hstM, habM⟩ := Cond.instanceMethod_spec hinst
  obtain ⟨methM', cM, hmethM', -, -, -, -, -, -, hsigM⟩ := Cond.code_spec hnamed hcode
  cases hmethM.symm.trans hmethM'
  obtain ⟨c2, r2, m2, q1, q2, q3, q4, kP, hkP, hkPi⟩ := Cond.selects_spec hsel
  cases hcls.symm.trans q1
  cases (State.methodFound?_of_named hnamed hy).symm.trans q2
  cases hnamed.symm.trans q3
  have hselP : selectMethod e.platform s.vm cellB.cls mk = .method mk := by rw [Launch.admits_selectMethod X.admits]; exact q4
  obtain ⟨vm₁, X₁, hstep₁⟩ := X.invokevirtual hexec hown hlink hnamed hmethM hstM hkP hkPi hy (a := b) (cell := cellB) hcell
    (fun z h => by rw [h] at hobj; cases hobj) hselP hmethM habM hkP hkPi (g := g) hg (argsL := argsL) (rest := rest) (hlen _ hsigM) hstack hdg
  rcases hK m meth c ⟨T.setVm vm₁, locs, cells, slots⟩ { g with stack := rest } (.invokevirtual index) mk (Value.ref b :: argsL).toArray X₁ hg hsize hdg hW (X₁.named hnamed) (hpre vm₁ X₁.warmed) with ⟨v, B, X', hpost, hsteps⟩ | ⟨q, B, X', hpost, hsteps⟩
  · exact Or.inl ⟨v, vm₁, B, X₁.warmed, X', hpost, fun target h => hstep₁ _ fun acts => by rw [doInvoke_state]; exact hsteps.trans h⟩
  · exact Or.inr ⟨q, vm₁, B, X₁.warmed, X', hpost, hstep₁ _ fun acts => by rw [doInvoke_state]; exact hsteps⟩
theorem vx_callS (X : Stand p l e R s m args below meth c T locs cells slots) (hexec : p.tables.exec = Jvm.exec) {own : String} {index : Nat} {y : MethodName} {bytes : ByteArray} {maxL : Nat} {ret : Option FieldType}
    (hown : s.vm.findClass own = some m.cls) (hlink : (Cond.methodLink own index y).before args s = true) (hstat : (Cond.static y).before args s = true) (hinit : (Cond.initialized y.cls).before args s = true)
    (hcode : (Cond.code y bytes maxL ret).before args s = true) (hy : y.cls ≠ "java/lang/invoke/MethodHandle" ∧ y.cls ≠ "java/lang/invoke/VarHandle")
    {W9 : Nat} {Pre : Pt → Array Value → Prop} {Post : Pt → Array Value → Option Value → Pt → Prop} {PostX : Pt → Array Value → Addr → Pt → Prop} (hK : vx_Back l R p e below s args y 3 W9 Pre Post PostX)
    {g : JFrame} (hg : g.method = m) (hsize : g.locals.size = c.maxLocals) {argsL rest : List Value} (hlen : ∀ sig, parseMethodDescriptor y.desc = some sig → argsL.length = sig.parameters.length)
    (hstack : g.stack = argsL.reverse ++ rest) (hW : 2 * g.monitorRoom + (rest.map fun v => v.category).sum ≤ W9) (hdg : decode c.code g.pc = .ok (.invokestatic index, 3))
    (hpre : ∀ vm₁, s.WarmedH vm₁ → Pre ⟨T.setVm vm₁, locs, cells, slots⟩ argsL.toArray) :
    (∃ (v : Option Value) (vm₁ : Vm) (B : Pt), s.WarmedH vm₁ ∧ Stand p l e R s m args below meth c B.U B.locs B.cells B.slots ∧ Post ⟨T.setVm vm₁, locs, cells, slots⟩ argsL.toArray v B ∧
      ∀ target, Steps p.tables e below (B.U.setTop { g with pc := g.pc + 3, stack := v.toList ++ rest }) target → Steps p.tables e below (T.setTop g) target) ∨
    (∃ (q : Addr) (vm₁ : Vm) (B : Pt), s.WarmedH vm₁ ∧ Stand p l e R s m args below meth c B.U B.locs B.cells B.slots ∧ PostX ⟨T.setVm vm₁, locs, cells, slots⟩ argsL.toArray q B ∧
      Steps p.tables e below (T.setTop g) ((B.U.setTop { g with stack := rest }).pushFrame (.throwing q))) := by
  obtain ⟨mk, hnamed⟩ := Cond.code_named hcode
  obtain ⟨methM, cM, hmethM, -, -, -, -, -, -, hsigM⟩ := Cond.code_spec hnamed hcode
  have hstatic : methM.isStatic = true := Cond.static_spec hnamed hmethM hstat
  obtain ⟨kP, hkP, -⟩ := className_of_methodNamed hnamed
  have hinitP : kP.init = .initialized := Cond.initialized_spec (findClass_of_methodNamed hnamed) hkP hinit
  obtain ⟨vm₁, X₁, hstep₁⟩ := X.invokestatic hexec hown hlink hnamed hmethM hstatic hkP hinitP hy (g := g) hg (argsL := argsL) (rest := rest) (hlen _ hsigM) hstack hdg
  rcases hK m meth c ⟨T.setVm vm₁, locs, cells, slots⟩ { g with stack := rest } (.invokestatic index) mk argsL.toArray X₁ hg hsize hdg hW (X₁.named hnamed) (hpre vm₁ X₁.warmed) with ⟨v, B, X', hpost, hsteps⟩ | ⟨q, B, X', hpost, hsteps⟩
  · exact Or.inl ⟨v, vm₁, B, X₁.warmed, X', hpost, fun target h => hstep₁ _ fun acts => by rw [doInvoke_state]; exact hsteps.trans h⟩
  · exact Or.inr ⟨q, vm₁, B, X₁.warmed, X', hpost, hstep₁ _ fun acts => by rw [doInvoke_state]; exact hsteps⟩
end Calls
theorem vx_cls {s : State} {T : State} {vm₁ : Vm} {E : String} {k : ClassId} (hW : s.WarmedH vm₁) (h : (T.setVm vm₁).vm.findClass E = some k) : s.vm.findClass E = some k := by
  have h1 : vm₁.findClass E = some k := h
  rw [hW.alike.findClass] at h1
  exact h1
/-- the method's frame g, with q thrown over it -/
def vx_W (p : Program) (l : Launch) (e : Env) (R : Room) (s : State) (m : MethodId) (args : Array Value) (below : List Frame) (meth : Method) (c : Code) (H : Heap) (locs : List Loc) (cells slots : Nat) (Q : State → Prop) (g : JFrame) (q : Addr) : Prop :=
  ∀ T : State, T.heap = H → Stand p l e R s m args below meth c T locs cells slots → ∃ t, Steps p.tables e below ((T.setTop g).pushFrame (.throwing q)) t ∧ Q t
def vx_Run (p : Program) (l : Launch) (e : Env) (R : Room) (s : State) (m : MethodId) (args : Array Value) (below : List Frame) (meth : Method) (c : Code) (H : Heap) (locs : List Loc) (cells slots mc ms : Nat) (g : JFrame) (rest : List Value) (Qa : State → Outcome → State → Prop) (XC : String → State → State → Prop) (free : Addr → Prop) : Prop :=
  ∀ T : State, T.heap = H → Stand p l e R s m args below meth c T locs cells slots →
    (∃ (v : Option Value) (st₀ t T' : State) (L : List Loc), st₀.heap = H ∧ Stand p l e R s m args below meth c T' (locs ++ L) (cells + mc) (slots + ms) ∧ (∀ q ∈ L, free q.base) ∧ T'.heap = t.heap ∧ T'.vm = t.vm ∧ Qa st₀ (.returned v) t ∧
      Goes p e below T g T' { g with pc := g.pc + 3, stack := v.toList ++ rest }) ∨
    (∃ (q : Addr) (st₀ t T' : State) (L : List Loc) (E : String) (ce : Cell), st₀.heap = H ∧ Stand p l e R s m args below meth c T' (locs ++ L) (cells + mc) (slots + ms) ∧ (∀ z ∈ L, free z.base) ∧ T'.heap = t.heap ∧ T'.vm = t.vm ∧ XC E st₀ t ∧ t.heap[q]? = some ce ∧ ce.vm = .none ∧ s.vm.findClass E = some ce.cls ∧
      Steps p.tables e below (T.setTop g) ((T'.setTop { g with stack := rest }).pushFrame (.throwing q)))
def vx_X {S : Type} (px : S → Prop) (B : String → S → State → Prop) (A : Nat → Prop) : String → State → State → Prop := fun E st t => ∃ u : S, px u ∧ B E u t ∧ va_F A st t
section Runs
variable {p : Program} {l : Launch} {e : Env} {R : Room} {s : State} {m : MethodId} {args : Array Value} {below : List Frame} {meth : Method} {c : Code} {H : Heap} {locs : List Loc} {cells slots : Nat}
variable {y : MethodName} {bytes cc : ByteArray} {maxL nL mc ms n index : Nat} {ret : Option FieldType} {ws : List Cond} {rm : Room} {Pc : Array Value → State → Prop} {Qc : Array Value → State → Outcome → State → Prop} {XC : String → State → State → Prop} {free : Addr → Prop} {Ts : List Cond} {own C : String} {b : Addr} {As rest : List Value} {g : JFrame}
theorem vx_callBack (cb : CallB R s args own index y bytes maxL ret ws rm mc ms n) (hM : vx_Met l y ws rm Pc Qc XC mc ms free) (hbl : FrameBlind Pc) : vx_Back l R p e below s args y 3 8 (PreOf R mc ms Pc) (PostOf Qc mc ms free) (vx_Post XC mc ms free) := by
  obtain ⟨hrc, hrs, hfr, hlo, hws, hcw, -, hini, -⟩ := cb
  exact vx_back (bytes := bytes) (maxL := maxL) (ret := ret) hM hbl hrc hrs hfr hlo hws hcw (fun a' U hW => word_at hW (Or.inl (by first | rfl | simp [Cond.onTables, Cond.keeps, Cond.steady])) hini)
theorem vx_runV (S : CallFix p m c cc nL s args Ts own) (hM : vx_Met l y ws rm Pc Qc XC mc ms free) (cw : CallW R s args own C index y bytes maxL ret ws rm mc ms n) (hp : PreV s H C b Pc As)
    (hg : g.method = m) (hn : As.length = n) (hsize : g.locals.size = nL) (hstack : g.stack = As.reverse ++ .ref b :: rest) (hW : 2 * g.monitorRoom + (rest.map fun v => v.category).sum ≤ 8) (hdg : decode cc g.pc = .ok (.invokevirtual index, 3)) (hf : cells + mc ≤ R.cells ∧ slots + ms ≤ R.slots) :
    vx_Run p l e R s m args below meth c H locs cells slots mc ms g rest (Qc (Value.ref b :: As).toArray) XC free := by
  have hK : vx_Back l R p e below s args y 3 8 (PreOf R mc ms Pc) (PostOf Qc mc ms free) (vx_Post XC mc ms free) := vx_callBack cw.1 hM hp.1
  obtain ⟨⟨-, -, -, -, -, -, hcode, -, hy, hlen, hl⟩, hin, hse⟩ := cw
  obtain ⟨hx, hb, hml, ho, -⟩ := S
  obtain ⟨-, ⟨cellB, hcB, hoB, hclB⟩, hPc⟩ := hp
  intro T hT X
  rcases vx_callV X hx (C := C) (bytes := bytes) (maxL := maxL) (ret := ret) ho hl hin hse hcode hy hK (by rw [hT]; exact hcB) hoB hclB hg (hsize.trans hml.symm) (argsL := As) (rest := rest) (fun sig h => hn.trans (hlen sig h)) hstack hW (by rw [hb]; exact hdg)
    (fun vm₁ hW₁ => ⟨hf.1, hf.2, hPc (T.setVm vm₁) hT hW₁⟩) with ⟨v, vm₁, ⟨U', l2, c2, s2⟩, hW₁, X', ⟨g', mk, t, L, e1, e2, hq, h1, hL, h2, h3⟩, st⟩ | ⟨q, vm₁, ⟨U', l2, c2, s2⟩, hW₁, X', ⟨g', mk, t, L, E, ce, e1, e2, hq, hce, hcv, hcl, h1, hL, h2, h3⟩, st⟩
  · dsimp only [Pt.U, Pt.locs, Pt.cells, Pt.slots] at X' e1 e2 h1 h2 h3 st
    subst h1; subst h2; subst h3
    exact Or.inl ⟨v, (T.setVm vm₁).calling g' mk (Value.ref b :: As).toArray, t, U', L, hT, X', hL, e1, e2, hq, st⟩
  · dsimp only [Pt.U, Pt.locs, Pt.cells, Pt.slots] at X' e1 e2 h1 h2 h3 st hcl
    subst h1; subst h2; subst h3
    exact Or.inr ⟨q, (T.setVm vm₁).calling g' mk (Value.ref b :: As).toArray, t, U', L, E, ce, hT, X', hL, e1, e2, hq, hce, hcv, vx_cls hW₁ hcl, st⟩
theorem vx_runS (S : CallFix p m c cc nL s args Ts own) (hM : vx_Met l y ws rm Pc Qc XC mc ms free) (cw : CallB R s args own index y bytes maxL ret ws rm mc ms n ∧ (Cond.static y).before args s = true) (hp : PreS s H Pc As)
    (hg : g.method = m) (hn : As.length = n) (hsize : g.locals.size = nL) (hstack : g.stack = As.reverse ++ rest) (hW : 2 * g.monitorRoom + (rest.map fun v => v.category).sum ≤ 8) (hdg : decode cc g.pc = .ok (.invokestatic index, 3)) (hf : cells + mc ≤ R.cells ∧ slots + ms ≤ R.slots) :
    vx_Run p l e R s m args below meth c H locs cells slots mc ms g rest (Qc As.toArray) XC free := by
  have hK : vx_Back l R p e below s args y 3 8 (PreOf R mc ms Pc) (PostOf Qc mc ms free) (vx_Post XC mc ms free) := vx_callBack cw.1 hM hp.1
  obtain ⟨⟨-, -, -, -, -, -, hcode, hini, hy, hlen, hl⟩, hstt⟩ := cw
  obtain ⟨hx, hb, hml, ho, -⟩ := S
  intro T hT X
  rcases vx_callS X hx (bytes := bytes) (maxL := maxL) (ret := ret) ho hl hstt hini hcode hy hK hg (hsize.trans hml.symm) (argsL := As) (rest := rest) (fun sig h => hn.trans (hlen sig h)) hstack hW (by rw [hb]; exact hdg)
    (fun vm₁ hW₁ => ⟨hf.1, hf.2, hp.2 (T.setVm vm₁) hT hW₁⟩) with ⟨v, vm₁, ⟨U', l2, c2, s2⟩, hW₁, X', ⟨g', mk, t, L, e1, e2, hq, h1, hL, h2, h3⟩, st⟩ | ⟨q, vm₁, ⟨U', l2, c2, s2⟩, hW₁, X', ⟨g', mk, t, L, E, ce, e1, e2, hq, hce, hcv, hcl, h1, hL, h2, h3⟩, st⟩
  · dsimp only [Pt.U, Pt.locs, Pt.cells, Pt.slots] at X' e1 e2 h1 h2 h3 st
    subst h1; subst h2; subst h3
    exact Or.inl ⟨v, (T.setVm vm₁).calling g' mk As.toArray, t, U', L, hT, X', hL, e1, e2, hq, st⟩
  · dsimp only [Pt.U, Pt.locs, Pt.cells, Pt.slots] at X' e1 e2 h1 h2 h3 st hcl
    subst h1; subst h2; subst h3
    exact Or.inr ⟨q, (T.setVm vm₁).calling g' mk As.toArray, t, U', L, E, ce, hT, X', hL, e1, e2, hq, hce, hcv, vx_cls hW₁ hcl, st⟩
end Runs
section Rows
variable {p : Program} {l : Launch} {e : Env} {R : Room} {s : State} {m : MethodId} {args : Array Value} {below : List Frame} {meth : Method} {c : Code} {H : Heap} {locs : List Loc} {cells slots : Nat} {Q : State → Prop}
variable {mc ms : Nat} {free : Addr → Prop} {A0 A1 : Nat → Prop} {H0 : Heap} {a : Array Value} {pc : Nat} {ls : Array Slot} {st0 rest : List Value}
theorem vx_keep {st₀ t T' : State} {L : List Loc} (h0 : st₀.heap = H) (e1 : T'.heap = t.heap) (hS : va_S A0 H0 H locs) (hA : ∀ q, q < H.size → A1 q → A0 q) (hf : ∀ q, free q → A0 q) (hL : ∀ q ∈ L, free q.base) (hF : va_F A1 st₀ t) :
    H.size ≤ T'.heap.size ∧ (∀ q : Nat, q < H.size → ¬ A1 q → T'.heap[q]? = H[q]?) ∧ va_S A0 H0 T'.heap (locs ++ L) := by
  obtain ⟨hz, hk⟩ := hF
  rw [h0] at hz hk
  exact ⟨by rw [e1]; exact hz, fun q h1 h2 => by rw [e1]; exact hk q h1 h2,
    ⟨Nat.le_trans hS.1 (by rw [e1]; exact hz), fun q h1 h2 => by rw [e1, hk q (Nat.lt_of_lt_of_le h1 hS.1) (fun z => h2 (hA q (Nat.lt_of_lt_of_le h1 hS.1) z))]; exact hS.2.1 q h1 h2, fun q hq => by
      rcases List.mem_append.mp hq with h | h
      · exact hS.2.2 q h
      · exact hf _ (hL q h)⟩⟩
theorem vx_calli {S SX : Type} {post : Int32 → S → Prop} {px : SX → Prop} {B : S → State → Prop} {BX : String → SX → State → Prop} {AX : Nat → Prop} (hr : vx_Run p l e R s m args below meth c H locs cells slots mc ms (F0 m pc ls st0) rest (va_Qi post B A1 a) (vx_X px BX AX) free) (hS : va_S A0 H0 H locs) (hA : ∀ q, q < H.size → A1 q → A0 q) (hf : ∀ q, free q → A0 q) (hAX : ∀ q, q < H.size → AX q → A0 q)
    (kx : ∀ (E : String) (ce : Cell) (q9 : Addr) (u : SX) (t : State) (H1 : Heap) (locs1 : List Loc), t.heap = H1 → s.vm.Alike t.vm → px u → BX E u t → H.size ≤ H1.size → (∀ q : Nat, q < H.size → ¬ AX q → H1[q]? = H[q]?) → va_S A0 H0 H1 locs1 → H1[q9]? = some ce → ce.vm = .none → s.vm.findClass E = some ce.cls → vx_W p l e R s m args below meth c H1 locs1 (cells + mc) (slots + ms) Q (F0 m pc ls rest) q9)
    (kk : ∀ (r : Int32) (u : S) (t : State) (H1 : Heap) (locs1 : List Loc), t.heap = H1 → s.vm.Alike t.vm → post r u → B u t → H.size ≤ H1.size → (∀ q : Nat, q < H.size → ¬ A1 q → H1[q]? = H[q]?) → va_S A0 H0 H1 locs1 → W p l e R s m args below meth c H1 locs1 (cells + mc) (slots + ms) Q (F0 m (pc + 3) ls (.int r :: rest))) : W p l e R s m args below meth c H locs cells slots Q (F0 m pc ls st0) := by
  intro T hT X
  rcases hr T hT X with ⟨v, st₀, t, T', L, h0, X', hL, e1, e2, ⟨⟨r, u, hv, hp, hb⟩, hF⟩, st⟩ | ⟨q, st₀, t, T', L, E, ce, h0, X', hL, e1, e2, ⟨u, hp, hb, hF⟩, hce, hcv, hcl, st⟩
  · cases hv
    obtain ⟨k1, k2, k3⟩ := vx_keep h0 e1 hS hA hf hL hF
    obtain ⟨t2, a1, b1⟩ := kk r u t T'.heap (locs ++ L) e1.symm (by rw [← e2]; exact X'.warmed.alike) hp hb k1 k2 k3 T' rfl X'
    exact ⟨t2, st t2 a1, b1⟩
  · obtain ⟨k1, k2, k3⟩ := vx_keep h0 e1 hS hAX hf hL hF
    obtain ⟨t2, a1, b1⟩ := kx E ce q u t T'.heap (locs ++ L) e1.symm (by rw [← e2]; exact X'.warmed.alike) hp hb k1 k2 k3 (by rw [e1]; exact hce) hcv hcl T' rfl X'
    exact ⟨t2, st.trans a1, b1⟩
theorem vx_calll {S SX : Type} {post : Int64 → S → Prop} {px : SX → Prop} {B : S → State → Prop} {BX : String → SX → State → Prop} {AX : Nat → Prop} (hr : vx_Run p l e R s m args below meth c H locs cells slots mc ms (F0 m pc ls st0) rest (va_Ql post B A1 a) (vx_X px BX AX) free) (hS : va_S A0 H0 H locs) (hA : ∀ q, q < H.size → A1 q → A0 q) (hf : ∀ q, free q → A0 q) (hAX : ∀ q, q < H.size → AX q → A0 q)
    (kx : ∀ (E : String) (ce : Cell) (q9 : Addr) (u : SX) (t : State) (H1 : Heap) (locs1 : List Loc), t.heap = H1 → s.vm.Alike t.vm → px u → BX E u t → H.size ≤ H1.size → (∀ q : Nat, q < H.size → ¬ AX q → H1[q]? = H[q]?) → va_S A0 H0 H1 locs1 → H1[q9]? = some ce → ce.vm = .none → s.vm.findClass E = some ce.cls → vx_W p l e R s m args below meth c H1 locs1 (cells + mc) (slots + ms) Q (F0 m pc ls rest) q9)
    (kk : ∀ (r : Int64) (u : S) (t : State) (H1 : Heap) (locs1 : List Loc), t.heap = H1 → s.vm.Alike t.vm → post r u → B u t → H.size ≤ H1.size → (∀ q : Nat, q < H.size → ¬ A1 q → H1[q]? = H[q]?) → va_S A0 H0 H1 locs1 → W p l e R s m args below meth c H1 locs1 (cells + mc) (slots + ms) Q (F0 m (pc + 3) ls (.long r :: rest))) : W p l e R s m args below meth c H locs cells slots Q (F0 m pc ls st0) := by
  intro T hT X
  rcases hr T hT X with ⟨v, st₀, t, T', L, h0, X', hL, e1, e2, ⟨⟨r, u, hv, hp, hb⟩, hF⟩, st⟩ | ⟨q, st₀, t, T', L, E, ce, h0, X', hL, e1, e2, ⟨u, hp, hb, hF⟩, hce, hcv, hcl, st⟩
  · cases hv
    obtain ⟨k1, k2, k3⟩ := vx_keep h0 e1 hS hA hf hL hF
    obtain ⟨t2, a1, b1⟩ := kk r u t T'.heap (locs ++ L) e1.symm (by rw [← e2]; exact X'.warmed.alike) hp hb k1 k2 k3 T' rfl X'
    exact ⟨t2, st t2 a1, b1⟩
  · obtain ⟨k1, k2, k3⟩ := vx_keep h0 e1 hS hAX hf hL hF
    obtain ⟨t2, a1, b1⟩ := kx E ce q u t T'.heap (locs ++ L) e1.symm (by rw [← e2]; exact X'.warmed.alike) hp hb k1 k2 k3 (by rw [e1]; exact hce) hcv hcl T' rfl X'
    exact ⟨t2, st.trans a1, b1⟩
theorem vx_callv {S SX : Type} {post : S → Prop} {px : SX → Prop} {B : S → State → Prop} {BX : String → SX → State → Prop} {AX : Nat → Prop} (hr : vx_Run p l e R s m args below meth c H locs cells slots mc ms (F0 m pc ls st0) rest (va_Qv post B A1 a) (vx_X px BX AX) free) (hS : va_S A0 H0 H locs) (hA : ∀ q, q < H.size → A1 q → A0 q) (hf : ∀ q, free q → A0 q) (hAX : ∀ q, q < H.size → AX q → A0 q)
    (kx : ∀ (E : String) (ce : Cell) (q9 : Addr) (u : SX) (t : State) (H1 : Heap) (locs1 : List Loc), t.heap = H1 → s.vm.Alike t.vm → px u → BX E u t → H.size ≤ H1.size → (∀ q : Nat, q < H.size → ¬ AX q → H1[q]? = H[q]?) → va_S A0 H0 H1 locs1 → H1[q9]? = some ce → ce.vm = .none → s.vm.findClass E = some ce.cls → vx_W p l e R s m args below meth c H1 locs1 (cells + mc) (slots + ms) Q (F0 m pc ls rest) q9)
    (kk : ∀ (u : S) (t : State) (H1 : Heap) (locs1 : List Loc), t.heap = H1 → s.vm.Alike t.vm → post u → B u t → H.size ≤ H1.size → (∀ q : Nat, q < H.size → ¬ A1 q → H1[q]? = H[q]?) → va_S A0 H0 H1 locs1 → W p l e R s m args below meth c H1 locs1 (cells + mc) (slots + ms) Q (F0 m (pc + 3) ls (rest))) : W p l e R s m args below meth c H locs cells slots Q (F0 m pc ls st0) := by
  intro T hT X
  rcases hr T hT X with ⟨v, st₀, t, T', L, h0, X', hL, e1, e2, ⟨⟨u, hv, hp, hb⟩, hF⟩, st⟩ | ⟨q, st₀, t, T', L, E, ce, h0, X', hL, e1, e2, ⟨u, hp, hb, hF⟩, hce, hcv, hcl, st⟩
  · cases hv
    obtain ⟨k1, k2, k3⟩ := vx_keep h0 e1 hS hA hf hL hF
    obtain ⟨t2, a1, b1⟩ := kk u t T'.heap (locs ++ L) e1.symm (by rw [← e2]; exact X'.warmed.alike) hp hb k1 k2 k3 T' rfl X'
    exact ⟨t2, st t2 a1, b1⟩
  · obtain ⟨k1, k2, k3⟩ := vx_keep h0 e1 hS hAX hf hL hF
    obtain ⟨t2, a1, b1⟩ := kx E ce q u t T'.heap (locs ++ L) e1.symm (by rw [← e2]; exact X'.warmed.alike) hp hb k1 k2 k3 (by rw [e1]; exact hce) hcv hcl T' rfl X'
    exact ⟨t2, st.trans a1, b1⟩
end Rows
section Ends
variable {p : Program} {l : Launch} {e : Env} {R : Room} {s : State} {m : MethodId} {args : Array Value} {below : List Frame} {meth : Method} {c : Code} {H : Heap} {locs : List Loc} {cells slots : Nat} {Q : State → Prop}
variable {mc ms : Nat} {free : Addr → Prop} {A0 A1 : Nat → Prop} {H0 : Heap} {a : Array Value} {ls : Array Slot} {st0 rest : List Value}
variable {Qc : Array Value → State → Outcome → State → Prop} {XC : String → State → State → Prop}
/-- what a body that may throw owes at its end -/
def vx_MQ (below : List Frame) (Qc : Array Value → State → Outcome → State → Prop) (XC : String → State → State → Prop) (a : Array Value) (s : State) (mc ms : Nat) (free : Addr → Prop) : State → Prop := fun t =>
  ∃ o, t.status = .running ∧ Ended t below o ∧ vx_Q Qc XC mc ms free a s o t
theorem vx_ret {g : JFrame} {mc ms : Nat} (k : W p l e R s m args below meth c H locs cells slots (MQ below Qc args s mc ms free) g) : W p l e R s m args below meth c H locs cells slots (vx_MQ below Qc XC args s mc ms free) g := by
  intro T hT X
  obtain ⟨t, a1, o, b1, b2, b3, b4⟩ := k T hT X
  exact ⟨t, a1, o, b1, b2, Or.inl ⟨b3, b4⟩⟩
/-- not caught here: it goes on to the caller -/
theorem vx_widen {g : JFrame} {q : Addr} {k n : Nat} (h1 : cells ≤ k) (h2 : slots ≤ n) (kk : vx_W p l e R s m args below meth c H locs k n Q g q) : vx_W p l e R s m args below meth c H locs cells slots Q g q := fun T hT X => kk T hT (stand_widen X h1 h2)
theorem vx_out {pc : Nat} {E : String} {ce : Cell} {q : Addr} {mc ms : Nat} (hout : ∀ x ∈ c.exceptionTable.toList, covers x pc = false) (hlocks : meth.locks = false) (hcell : H[q]? = some ce) (hv : ce.vm = .none) (hcl : s.vm.findClass E = some ce.cls)
    (hx : ∀ t : State, t.heap = H → s.vm.Alike t.vm → XC E s t) (hf : ∀ z ∈ locs, free z.base) (hc : cells ≤ mc) (hs : slots ≤ ms) :
    vx_W p l e R s m args below meth c H locs cells slots (vx_MQ below Qc XC args s mc ms free) (F0 m pc ls rest) q := by
  intro T hT X
  obtain ⟨st1, hrun, hend, hW, hsm⟩ := X.leaveThrown q (g := F0 m pc ls rest) rfl rfl rfl hout hlocks
  have hcell9 : (T.setFrames (.throwing q :: below)).heap[q]? = some ce := by
    show T.heap[q]? = some ce
    rw [hT]; exact hcell
  exact ⟨_, st1, .threw q, hrun, hend, Or.inr ⟨q, rfl, E, ce, locs, hx _ hT hW.alike, hcell9, hv, hcl, hW, hsm.mono hc hs, hf⟩⟩
theorem vx_frame {U : State} {k n : Nat} (h : s.sameButNew ({ U with vm := s.vm } : State) locs k n) : s.heap.size ≤ U.heap.size ∧ ∀ q : Nat, q < s.heap.size → (∀ z ∈ locs, z.base ≠ q) → U.heap[q]? = s.heap[q]? := by
  obtain ⟨-, h2, -, -, -, h6⟩ := h
  refine ⟨h2, fun q hq hz => ?_⟩
  obtain ⟨c9, e1, e2, e3, e4⟩ := h6 q _ (Array.getElem?_eq_getElem hq)
  have hs : c9.slots = (s.heap[q]).slots := Array.ext_getElem? fun i => e4 i fun hm => hz _ hm rfl
  have h9 : c9 = s.heap[q] := by
    rw [hs] at e2
    exact e2
  have e5 : U.heap[q]? = some c9 := e1
  rw [e5, h9, Array.getElem?_eq_getElem hq]
/-- the words of a throw but the four that speak of the heap -/
def vx_no (w : Cond) : Bool := decide (w ≠ .isRef (.static Bundle.tN "UNASSIGNED_STACK" Bundle.steD)) && decide (w ≠ .isRef (.static Bundle.tN "SUPPRESSED_SENTINEL" Bundle.listD)) && decide (w ≠ .laysStatic Bundle.tN "UNASSIGNED_STACK" Bundle.steD) && decide (w ≠ .laysStatic Bundle.tN "SUPPRESSED_SENTINEL" Bundle.listD)
def vx_at0 (own : String) (ic : Nat) (X : String) (names : List String) : List Cond := (Bundle.ownAtoms0 own ic X names).filter vx_no
def vx_atS (own : String) (ic : Nat) (X : String) (names : List String) : List Cond := (Bundle.ownAtoms own ic X names).filter vx_no
/-- a word that the tables alone decide, or a good one -/
def vx_ot (w : Cond) : Bool := w.onTables || goodWord w
theorem vx_ot_at {args a' : Array Value} {s U : State} {w : Cond} (hW : s.WarmedH U.vm) (hvm : s.vm = U.vm) (hg : vx_ot w = true) (h : w.before args s = true) : w.before a' U = true := by
  simp only [vx_ot, Bool.or_eq_true] at hg
  rcases hg with hg | hg
  · exact va_tabs hg hvm h
  · exact word_at hW (good_of_word hg) h
/-- a list's words: the good ones out of the method's own list, the others by premises of their own -/
theorem vx_hat {args : Array Value} {s : State} {L B : List Cond} (h1 : ∀ w ∈ L.filter goodWord, w.before args s = true) (h2 : ∀ w ∈ L.filter (fun w => !goodWord w), w ∈ B) (h3 : ∀ w ∈ B, w.before args s = true) : ∀ w ∈ L, w.before args s = true := by
  intro w hw
  by_cases g : goodWord w = true
  · exact h1 w (List.mem_filter.mpr ⟨hw, g⟩)
  · refine h3 w (h2 w (List.mem_filter.mpr ⟨hw, ?_⟩))
    show (!goodWord w) = true
    cases hgw : goodWord w
    · rfl
    · exact absurd hgw g
theorem vx_c {args : Array Value} {s : State} {w : Cond} {B : List Cond} (h : w.before args s = true) (t : ∀ w ∈ B, w.before args s = true) : ∀ w' ∈ w :: B, w'.before args s = true := fun w' h' => (List.mem_cons.mp h').elim (fun e => by rw [e]; exact h) (t w')
theorem vx_n {args : Array Value} {s : State} : ∀ w ∈ ([] : List Cond), w.before args s = true := fun _ h => nomatch h
theorem vx_own {args : Array Value} {s : State} {L : List Cond} (h1 : ∀ w ∈ L.filter vx_no, w.before args s = true)
    (hU : (Cond.isRef (.static Bundle.tN "UNASSIGNED_STACK" Bundle.steD)).before args s = true) (hN : (Cond.isRef (.static Bundle.tN "SUPPRESSED_SENTINEL" Bundle.listD)).before args s = true)
    (lU : (Cond.laysStatic Bundle.tN "UNASSIGNED_STACK" Bundle.steD).before args s = true) (lN : (Cond.laysStatic Bundle.tN "SUPPRESSED_SENTINEL" Bundle.listD).before args s = true) : ∀ w ∈ L, w.before args s = true := by
  intro w hw
  by_cases e1 : w = .isRef (.static Bundle.tN "UNASSIGNED_STACK" Bundle.steD)
  · rw [e1]; exact hU
  · by_cases e2 : w = .isRef (.static Bundle.tN "SUPPRESSED_SENTINEL" Bundle.listD)
    · rw [e2]; exact hN
    · by_cases e3 : w = .laysStatic Bundle.tN "UNASSIGNED_STACK" Bundle.steD
      · rw [e3]; exact lU
      · by_cases e4 : w = .laysStatic Bundle.tN "SUPPRESSED_SENTINEL" Bundle.listD
        · rw [e4]; exact lN
        · exact h1 w (List.mem_filter.mpr ⟨hw, by unfold vx_no; rw [decide_eq_true e1, decide_eq_true e2, decide_eq_true e3, decide_eq_true e4]; rfl⟩)
/-- where a static field lies, its class's statics cell in H -/
def vx_L (C n d : String) (A : Nat → Prop) (U : State) (H : Heap) : Prop := ∃ (c : ClassId) (k : Class) (i : Nat) (f : Field) (a : Nat) (cell : Cell), U.vm.findClass C = some c ∧ U.fieldFound? C n d = some (c, k, i, f) ∧ f.isStatic = true ∧ k.statics = some a ∧ H[a]? = some cell ∧ cell.vm.isStatics = true ∧ cell.cls = c ∧ f.slot < cell.slots.size ∧ k.staticTypes[f.slot]? = some f.type ∧ ¬ A a
theorem vx_L.moved {C n d : String} {A : Nat → Prop} {u U : State} {H : Heap} (hvm : u.vm.Alike U.vm) (h : vx_L C n d A u H) : vx_L C n d A U H := by
  obtain ⟨c, k, i, f, a, cell, h1, h2, h3, h4, h5, h6, h7, h8, h9, h10⟩ := h
  obtain ⟨k', hi', he⟩ := State.fieldFound?_setVm hvm h2
  exact ⟨c, k', i, f, a, cell, by rw [hvm.findClass]; exact h1, hi', h3, by rw [he]; exact h4, h5, h6, h7, h8, by rw [he]; exact h9, h10⟩
theorem vx_L.kept {C n d : String} {A : Nat → Prop} {U : State} {H H1 : Heap} (h : vx_L C n d A U H) (hq : ∀ a : Nat, a < H.size → ¬ A a → H1[a]? = H[a]?) : vx_L C n d A U H1 := by
  obtain ⟨c, k, i, f, a, cell, h1, h2, h3, h4, h5, h6, h7, h8, h9, h10⟩ := h
  exact ⟨c, k, i, f, a, cell, h1, h2, h3, h4, by rw [hq a (Array.getElem?_eq_some_iff.mp h5).1 h10]; exact h5, h6, h7, h8, h9, h10⟩
theorem vx_L.narrow {C n d : String} {A B : Nat → Prop} {U : State} {H : Heap} (h : vx_L C n d A U H) (hAB : ∀ q, B q → A q) : vx_L C n d B U H := by
  obtain ⟨c, k, i, f, a, cell, h1, h2, h3, h4, h5, h6, h7, h8, h9, h10⟩ := h
  exact ⟨c, k, i, f, a, cell, h1, h2, h3, h4, h5, h6, h7, h8, h9, fun z => h10 (hAB _ z)⟩
theorem vx_L.word {C n d : String} {A : Nat → Prop} {s : State} {args : Array Value} (h : vx_L C n d A s s.heap) : (Cond.laysStatic C n d).before args s = true := by
  obtain ⟨c, k, i, f, a, cell, h1, h2, h3, h4, h5, h6, h7, h8, h9, -⟩ := h
  show (Cond.laysStatic C n d).holds args s none s [] = true
  exact Cond.laysStatic_of h1 h2 h3 h4 h5 h6 h7 h8 h9
/-- .. and what it holds: null or some reference -/
def vx_Zq (C n d : String) (A : Nat → Prop) (U : State) (H : Heap) : Prop := va_Zq C n d A U H ∧ vx_L C n d A U H
theorem vx_Zq.moved {C n d : String} {A : Nat → Prop} {u U : State} {H : Heap} (hvm : u.vm.Alike U.vm) (h : vx_Zq C n d A u H) : vx_Zq C n d A U H := ⟨va_Zq.moved hvm h.1, vx_L.moved hvm h.2⟩
theorem vx_Zq.kept {C n d : String} {A : Nat → Prop} {U : State} {H H1 : Heap} (h : vx_Zq C n d A U H) (hq : ∀ a : Nat, a < H.size → ¬ A a → H1[a]? = H[a]?) : vx_Zq C n d A U H1 := ⟨va_Zq.kept h.1 hq, vx_L.kept h.2 hq⟩
theorem vx_Zq.narrow {C n d : String} {A B : Nat → Prop} {U : State} {H : Heap} (h : vx_Zq C n d A U H) (hAB : ∀ q, B q → A q) : vx_Zq C n d B U H := ⟨va_Zq.narrow h.1 hAB, vx_L.narrow h.2 hAB⟩
theorem vx_Zqof {args : Array Value} {s : State} {C n d : String} {A : Nat → Prop} (hl : (Cond.laysStatic C n d).before args s = true) (hini : (Cond.initialized C).before args s = true) (h : (Cond.isRef (.static C n d)).before args s = true) (hA : ∀ a : Nat, a < s.heap.size → ¬ A a) : vx_Zq C n d A s s.heap := by
  refine ⟨va_Zqof hl hini h hA, ?_⟩
  obtain ⟨c, k, i, f, a, cell, h1, h2, h3, h4, h5, h6, h7, h8, h9⟩ := Cond.laysStatic_spec hl
  exact ⟨c, k, i, f, a, cell, h1, h2, h3, h4, h5, h6, h7, h8, h9, hA a (Array.getElem?_eq_some_iff.mp h5).1⟩
theorem vx_isRef {C n d : String} {v : Value} {A : Nat → Prop} {s : State} {args : Array Value} (h : va_Z C n d v A s s.heap) (hv : v.isRef = true) : (Cond.isRef (.static C n d)).before args s = true := by
  obtain ⟨cf, kf, fi, f, a, cell, h1, h2, h3, h4, h5, h6, h7, -⟩ := h
  have he : (Term.static C n d).eval args s none [] s = some v := by
    simp [Term.eval, State.fieldNamed?, h1, h2, h4, h5, h6, h7]
  simp only [Cond.before, Cond.holds, Cond.value, he]
  cases v <;> simp_all [Value.isRef]
theorem vx_isRefq {C n d : String} {A : Nat → Prop} {s : State} {args : Array Value} (h : va_Zq C n d A s s.heap) : (Cond.isRef (.static C n d)).before args s = true := by
  rcases h with h | ⟨t, h⟩
  · exact vx_isRef h rfl
  · exact vx_isRef h rfl
/-- the same frame, seen from here: as if the method were called anew in this heap -/
theorem vx_rebase {T : State} (X : Stand p l e R s m args below meth c T locs cells slots) {R' : Room} (hf : R'.frames ≤ R.frames) (hl : R'.locals ≤ R.locals) (hc : cells + R'.cells ≤ R.cells) (hs : slots + R'.slots ≤ R.slots) :
    Stand p l e R' ((T.setVm s.vm).setFrames (.invoking m args :: below)) m args below meth c T [] 0 0 := by
  have htop : (T.setVm s.vm).topJava?.isSome := X.here.top
  have hF : ((T.setVm s.vm).setFrames (.invoking m args :: below)).frames = .invoking m args :: below := State.frames_setFrames _ (State.cur_lt_of_top htop)
  obtain ⟨g₀, hg0⟩ := Option.isSome_iff_exists.mp htop
  obtain ⟨r, hr⟩ := State.topJava?_eq_some.mp hg0
  have hl9 : e.platform.stackLimits (T.setVm s.vm).me = e.platform.stackLimits s.me := X.limits
  have hb9 : (T.setVm s.vm).me.stackBytes = s.me.stackBytes := X.bytes
  refine ⟨X.admits, X.cas, X.clock, hF, ?_, X.hears, X.method, X.code, X.here, X.tail, X.warmed, ?_, ?_, ?_⟩
  · have h := X.room
    have hU : ((T.setVm s.vm).setFrames (.invoking m args :: below)).localsInUse = s.localsInUse := by
      rw [State.localsInUse_invoking hF (meth := meth) (c := c) X.method X.code, State.localsInUse_invoking X.frames X.method X.code]
    simp only [State.hasRoom, Bool.and_eq_true, decide_eq_true_eq] at h ⊢
    obtain ⟨⟨⟨⟨h1, h2, h3, h4, h5, h6⟩, h7⟩, h8⟩, h9⟩ := h
    rw [X.frames, List.length_cons] at h2 h3
    have q1 := X.heapSize
    have q2 := X.used
    simp only [hF, hU, List.length_cons, State.stackLimits_setFrames, State.stackBytes_setFrames, hl9, hb9]
    refine ⟨⟨⟨⟨by omega, by omega, by omega, by omega, by omega, h6⟩, ?_⟩, ?_⟩, X.book⟩
    · show T.heap.size + R'.cells ≤ e.platform.maxCells
      omega
    · show T.slotsUsed + R'.slots ≤ e.platform.maxSlots
      omega
  · rw [State.stackLimits_setFrames]; rfl
  · rw [State.stackBytes_setFrames]; rfl
  · refine ⟨?_, Nat.le_refl _, Nat.le_refl _, ?_, ?_, fun a c9 h9 => ⟨c9, h9, rfl, rfl, fun _ _ => rfl⟩⟩
    · obtain ⟨t, ht, -⟩ := State.frames_cons hr
      show T.setVm s.vm = { ((T.setVm s.vm).setFrames (.invoking m args :: below)).setFrames (T.setVm s.vm).frames with heap := T.heap, slotsUsed := T.slotsUsed }
      rw [State.setFrames_setFrames, State.setFrames_self ht]
      rfl
    · show T.slotsUsed = T.slotsUsed + ((T.heap.toList.drop T.heap.size).map (·.slots.size)).sum
      rw [List.drop_eq_nil_of_le (Nat.le_of_eq Array.length_toList)]
      rfl
    · show ((T.heap.toList.drop T.heap.size).map (·.slots.size)).sum ≤ 0
      rw [List.drop_eq_nil_of_le (Nat.le_of_eq Array.length_toList)]
      exact Nat.le_refl _
/-- 'throw new E()': new; dup; invokespecial; athrow -/
theorem vx_throw0 {cc : ByteArray} {pc : Nat} (hexec : p.tables.exec = Jvm.exec) (hb : c.code = cc) (hl : l.stackTraces = false) {own cls : String} {names : List String} {ik ic mc ms : Nat} {A : Nat → Prop}
    (hown : s.vm.findClass own = some m.cls) (hcls : Bundle.fit cls = true) (hnames : ∀ n ∈ names, Bundle.fit n = true)
    (hk : (Cond.classLink own ik cls).before args s = true) (hini : (Cond.initialized cls).before args s = true) (hat : ∀ w ∈ vx_at0 own ic cls names, w.before args s = true)
    (hgood : ∀ w ∈ Cond.classLink own ik cls :: Cond.initialized cls :: vx_at0 own ic cls names, vx_ot w = true)
    (hU : vx_Zq Bundle.tN "UNASSIGNED_STACK" Bundle.steD A s s.heap) (hN : vx_Zq Bundle.tN "SUPPRESSED_SENTINEL" Bundle.listD A s s.heap) (hS : va_S A s.heap H locs) (hsize : ls.size = c.maxLocals)
    (d0 : decode cc pc = .ok (.new ik, 3)) (d3 : decode cc (pc + 3) = .ok (.dup, 1)) (d4 : decode cc (pc + 4) = .ok (.invokespecial ic, 3)) (d7 : decode cc (pc + 7) = .ok (.athrow, 1))
    (hout : ∀ x ∈ c.exceptionTable.toList, covers x (pc + 7) = false)
    (hRframes : names.length + 3 < R.frames) (hRlocals : (rest.map fun v => v.category).sum + (13 * (names.length + 1) + 42) ≤ R.locals) (hRcells : cells + 1 ≤ R.cells) (hRslots : slots + 6 ≤ R.slots) (hlocks : meth.locks = false)
    (hx : ∀ t : State, s.vm.Alike t.vm → H.size ≤ t.heap.size → (∀ q : Nat, q < H.size → t.heap[q]? = H[q]?) → XC cls s t)
    (hf : ∀ z ∈ locs, free z.base) (hc : cells + 1 ≤ mc) (hs : slots + 6 ≤ ms) :
    W p l e R s m args below meth c H locs cells slots (vx_MQ below Qc XC args s mc ms free) (F0 m pc ls rest) := by
  intro T hT X
  have htr : e.platform.stackTraces = false := (show e.platform.stackTraces = l.stackTraces by rw [X.admits.platform]).trans hl
  have Y := vx_rebase X (R' := { frames := R.frames, locals := R.locals, cells := 1, slots := 6 }) (Nat.le_refl _) (Nat.le_refl _) hRcells hRslots
  obtain ⟨s', hA⟩ : ∃ z, z = (T.setVm s.vm).setFrames (.invoking m args :: below) := ⟨_, rfl⟩
  rw [← hA] at Y
  have hvm : s'.vm = s.vm := by rw [hA]; rfl
  have hhp : s'.heap = H := by rw [hA]; exact hT
  have hW0 : s.WarmedH s'.vm := by rw [hvm]; exact State.WarmedH.refl s
  have hat' : ∀ w ∈ vx_at0 own ic cls names, w.before args s' = true := fun w hw => vx_ot_at hW0 hvm.symm (hgood w (List.mem_cons_of_mem _ (List.mem_cons_of_mem _ hw))) (hat w hw)
  have hk' : (Cond.classLink own ik cls).before args s' = true := vx_ot_at hW0 hvm.symm (hgood _ List.mem_cons_self) hk
  have hini' : (Cond.initialized cls).before args s' = true := vx_ot_at hW0 hvm.symm (hgood _ (List.mem_cons_of_mem _ List.mem_cons_self)) hini
  have hU' : vx_Zq Bundle.tN "UNASSIGNED_STACK" Bundle.steD A s' s'.heap := by rw [hhp]; exact vx_Zq.moved hW0.alike (hU.kept hS.2.1)
  have hN' : vx_Zq Bundle.tN "SUPPRESSED_SENTINEL" Bundle.listD A s' s'.heap := by rw [hhp]; exact vx_Zq.moved hW0.alike (hN.kept hS.2.1)
  have h : ∀ w ∈ Bundle.ownAtoms0 own ic cls names, w.before args s' = true := vx_own hat' (vx_isRefq hU'.1) (vx_isRefq hN'.1) hU'.2.word hN'.2.word
  have hown' : s'.vm.findClass own = some m.cls := by rw [hvm]; exact hown
  have hins : (Cond.instantiable cls 6).before args s' = true := h _ (by simp [Bundle.ownAtoms0])
  obtain ⟨vm₁, cX, kX, hfX, hkX, -, -, X₁, st1⟩ := Y.newCold hexec (own := own) (C := cls) (index := ik) (n := 6) hown' hk' hins hini'
    (g := F0 m pc ls rest) rfl (by rw [hb]; exact d0) (Nat.le_refl _) (Nat.le_refl _)
  generalize hT1 : (T.setVm vm₁).pushCell { cls := cX, slots := kX.instanceTypes.map defaultValue, vm := .none } = T1 at X₁ st1
  have hcat : (Value.ref T.heap.size).category = 1 := rfl
  have hcellA : T1.heap[T.heap.size]? = some (freshCell cX kX) := by rw [← hT1]; exact State.heap_pushCell_size _ _
  have d3' : decode c.code (pc + 3) = .ok (.dup, 1) := by rw [hb]; exact d3
  obtain ⟨U, hsteps, hrun, hend, hW, hsame, ce, hce, hO⟩ := X₁.ctorThrow0 hexec htr (own := own) (cls := cls) (names := names) (ic := ic) hown' hcls hnames h (fun x hx => nomatch hx) hfX hkX hcellA (by rw [hhp, hT]; exact Nat.le_refl _)
    (g := { method := m, pc := pc + 4, locals := ls, stack := .ref T.heap.size :: .ref T.heap.size :: rest, locked := none }) rfl hsize rfl rfl (rest := rest) rfl
    (by rw [hb]; exact d4) (by rw [hb]; exact d7) hout hRframes (by simp only [List.map_cons, List.sum_cons, hcat]; omega) hlocks
  obtain ⟨f1, f2⟩ := vx_frame hsame
  rw [hhp] at f1 f2
  have hWs : s.WarmedH U.vm := State.WarmedH.trans hW0 hW
  have hcl : s.vm.findClass cls = some ce.cls := by
    have h9 := hO.cls
    rw [hvm] at h9
    exact h9
  have hall : s.sameButNew ({ U with vm := s.vm } : State) locs mc ms := by
    subst hA
    obtain ⟨e1, e2⟩ := hsame
    rw [State.setFrames_setFrames] at e1
    have h2 : (T.setVm s.vm).sameButNew ({ U with vm := s.vm } : State) [] (0 + 1) (0 + 6) := ⟨e1, e2⟩
    have h3 := X.same.trans h2
    rw [List.append_nil] at h3
    exact h3.mono hc hs
  refine ⟨U, ?_, .threw T.heap.size, hrun, hend, Or.inr ⟨T.heap.size, rfl, cls, ce, locs, hx U hWs.alike f1 (fun q hq => f2 q hq (fun z hz => nomatch hz)), hce, hO.vm, hcl, hWs, hall, hf⟩⟩
  refine st1 _ ?_
  show Steps p.tables e below (T1.setTop { method := m, pc := pc + 3, locals := ls, stack := .ref T.heap.size :: rest, locked := none }) _
  jvm_step X₁.here [X₁.here.top, hexec, d3', Value.category]
  exact hsteps
end Ends
section Bodies
variable {l : Launch}
theorem vx_ofW {y : MethodName} {ws ws' : List Cond} {rm : Room} {Pc : Array Value → State → Prop} {Qc : Array Value → State → Outcome → State → Prop} {XC : String → State → State → Prop} {mc ms : Nat} {free : Addr → Prop} {cc : ByteArray} {maxL : Nat} {ret : Option FieldType}
    (hy : plainName y.cls = true) (hw : ws = Cond.code y cc maxL ret :: ws')
    (body : ∀ p e s m args below meth c s₁, BodyLoose p l y (headSpec ws rm) cc maxL ret e s m args below meth c s₁ → c.maxLocals = maxL → (∀ x ∈ c.exceptionTable.toList, False) → Pc args s →
      W p l e (headSpec ws rm).room s m args below meth c s.heap [] 0 0 (vx_MQ below Qc XC args s mc ms free) (entryFrame m args maxL)) : vx_Met l y ws rm Pc Qc XC mc ms free := by
  refine MetFree.of_bodyS (code := cc) (maxLocals := maxL) (ret := ret) hy ?_ ?_
  · intro args s m h hn
    obtain ⟨meth, c, h1, h2, h3, h4, h5, h6, -, -⟩ := Cond.code_spec hn (atoms_spec (ws := ws) h _ (by rw [hw]; exact List.mem_cons_self))
    exact ⟨meth, c, h1, h2, h3, h4, h5, h6⟩
  · intro p e s m args below meth c s₁ B hml hP _
    have hh0 : s₁.heap = s.heap := by rw [B.state]; rfl
    have ht : ∀ x ∈ c.exceptionTable.toList, False := by
      obtain ⟨meth9, c9, h1, h2, -, -, -, -, h7, -⟩ := Cond.code_spec B.named (atoms_spec (ws := ws) B.pre _ (by rw [hw]; exact List.mem_cons_self))
      cases Option.some.inj (h1.symm.trans B.method)
      cases Option.some.inj (h2.symm.trans (Stand.of_body B).code)
      intro x hx
      rw [Array.isEmpty_iff.mp h7] at hx
      cases hx
    obtain ⟨t, a1, o, b1, b2, b3⟩ := body p e s m args below meth c s₁ B hml ht hP s₁ hh0 (Stand.of_body B)
    exact ⟨t, o, a1, b1, b2, b3⟩
/-- the table of a body with handlers -/
theorem vx_table {p : Program} {x y : MethodName} {S : Spec} {cc bytes : ByteArray} {maxL maxL' : Nat} {ret ret' : Option FieldType} {e : Env} {s s₁ : State} {m : MethodId} {args : Array Value} {below : List Frame} {meth : Method} {c : Code} {hh : List (Nat × Nat × Nat × Nat)}
    (B : BodyLoose p l y S cc maxL ret e s m args below meth c s₁) (h : (Cond.codeWith y bytes maxL' ret' hh).before args s = true) : c.exceptionTable.toList = tableOf hh := by
  obtain ⟨m9, meth9, c9, hn9, h1, h2, -, -, h6, -⟩ := Cond.codeWith_spec h
  cases Option.some.inj (hn9.symm.trans B.named)
  cases Option.some.inj (h1.symm.trans B.method)
  cases Option.some.inj (h2.symm.trans (Stand.of_body B).code)
  rw [← h6, table_eq]
end Bodies
end VXA
/-! ===== END ===== -/
/-! ===== BEGIN a static call of a method with an exception table ===== -/
section VXS
variable {p : Program} {l : Launch} {e : Env} {R : Room} {s : State} {m : MethodId} {args : Array Value} {below : List Frame} {meth : Method} {c : Code} {T : State} {H : Heap} {locs : List Loc} {cells slots : Nat}
abbrev vx_CSW (R : Room) (s : State) (args : Array Value) (own : String) (index : Nat) (y : MethodName) (bytes : ByteArray) (maxL : Nat) (ret : Option FieldType) (hh : List (Nat × Nat × Nat × Nat)) (ws : List Cond) (rm : Room) (mc ms n : Nat) : Prop :=
  (rm.cells = mc ∧ rm.slots = ms ∧ rm.frames + 1 ≤ R.frames ∧ 8 + (maxL + 11) + rm.locals ≤ R.locals ∧ (∀ w ∈ ws, ∀ (a' : Array Value) (U : State), s.WarmedH U.vm → w.before a' U = true) ∧ Cond.codeWith y bytes maxL ret hh ∈ ws) ∧
  (Cond.codeWith y bytes maxL ret hh).before args s = true ∧ (Cond.initialized y.cls).before args s = true ∧ (y.cls ≠ "java/lang/invoke/MethodHandle" ∧ y.cls ≠ "java/lang/invoke/VarHandle") ∧
  (∀ sig, parseMethodDescriptor y.desc = some sig → n = sig.parameters.length) ∧ (Cond.methodLink own index y).before args s = true ∧ (Cond.static y).before args s = true
theorem vx_cwSW {own : String} {index maxL mc ms : Nat} {y : MethodName} {bytes : ByteArray} {ret : Option FieldType} {hh : List (Nat × Nat × Nat × Nat)} {Ts ws ws' : List Cond} {rm : Room} (n : Nat) (ht : ∀ w ∈ Ts, w.before args s = true) (hT : GoodIn Ts (va_wsS own index y ws)) (hw : ws = Cond.codeWith y bytes maxL ret hh :: ws') (hrc : rm.cells = mc) (hrs : rm.slots = ms)
    (hd : y.cls ≠ "java/lang/invoke/MethodHandle" ∧ y.cls ≠ "java/lang/invoke/VarHandle" ∧ (parseMethodDescriptor y.desc).map (fun d => d.parameters.length) = some n) (hR : rm.frames + 1 ≤ R.frames ∧ 8 + (maxL + 11) + rm.locals ≤ R.locals) :
    vx_CSW R s args own index y bytes maxL ret hh ws rm mc ms n := by
  have ok : ∀ w ∈ va_wsS own index y ws, w.before args s = true := fun w h => ht w (hT w h).1
  have hG : GoodIn Ts ws := fun w h => hT w (by unfold va_wsS; exact List.mem_append_right _ h)
  have hc : Cond.codeWith y bytes maxL ret hh ∈ ws := by rw [hw]; exact List.mem_cons_self
  refine ⟨⟨hrc, hrs, hR.1, hR.2, pay_in ht hG, hc⟩, ht _ (hG _ hc).1, ok _ (by simp [va_wsS]), ⟨hd.1, hd.2.1⟩, fun sig h => ?_, ok _ (by simp [va_wsS]), ok _ (by simp [va_wsS])⟩
  have h2 := hd.2.2
  rw [h] at h2
  exact (Option.some.inj h2).symm
theorem vx_callSW (X : Stand p l e R s m args below meth c T locs cells slots) (hexec : p.tables.exec = Jvm.exec) {own : String} {index : Nat} {y : MethodName} {bytes : ByteArray} {maxL : Nat} {ret : Option FieldType} {hh : List (Nat × Nat × Nat × Nat)}
    (hown : s.vm.findClass own = some m.cls) (hlink : (Cond.methodLink own index y).before args s = true) (hstat : (Cond.static y).before args s = true) (hinit : (Cond.initialized y.cls).before args s = true)
    (hcode : (Cond.codeWith y bytes maxL ret hh).before args s = true) (hy : y.cls ≠ "java/lang/invoke/MethodHandle" ∧ y.cls ≠ "java/lang/invoke/VarHandle")
    {W9 : Nat} {Pre : Pt → Array Value → Prop} {Post : Pt → Array Value → Option Value → Pt → Prop} (hK : Back l R p e below s args y 3 W9 Pre Post)
    {g : JFrame} (hg : g.method = m) (hsize : g.locals.size = c.maxLocals) {argsL rest : List Value} (hlen : ∀ sig, parseMethodDescriptor y.desc = some sig → argsL.length = sig.parameters.length)
    (hstack : g.stack = argsL.reverse ++ rest) (hW : 2 * g.monitorRoom + (rest.map fun v => v.category).sum ≤ W9) (hdg : decode c.code g.pc = .ok (.invokestatic index, 3))
    (hpre : ∀ vm₁, s.WarmedH vm₁ → Pre ⟨T.setVm vm₁, locs, cells, slots⟩ argsL.toArray) :
    ∃ (v : Option Value) (vm₁ : Vm) (B : Pt), s.WarmedH vm₁ ∧ Stand p l e R s m args below meth c B.U B.locs B.cells B.slots ∧ Post ⟨T.setVm vm₁, locs, cells, slots⟩ argsL.toArray v B ∧
      ∀ target, Steps p.tables e below (B.U.setTop { g with pc := g.pc + 3, stack := v.toList ++ rest }) target → Steps p.tables e below (T.setTop g) target := by
  obtain ⟨mk, methM, cM, hnamed, hmethM, -, -, -, -, -, -, hsigM⟩ := Cond.codeWith_spec hcode
  have hstatic : methM.isStatic = true := Cond.static_spec hnamed hmethM hstat
  obtain ⟨kP, hkP, -⟩ := className_of_methodNamed hnamed
  have hinitP : kP.init = .initialized := Cond.initialized_spec (findClass_of_methodNamed hnamed) hkP hinit
  obtain ⟨vm₁, X₁, hstep₁⟩ := X.invokestatic hexec hown hlink hnamed hmethM hstatic hkP hinitP hy (g := g) hg (argsL := argsL) (rest := rest) (hlen _ hsigM) hstack hdg
  obtain ⟨v, B, X', hpost, hsteps⟩ := hK m meth c ⟨T.setVm vm₁, locs, cells, slots⟩ { g with stack := rest } (.invokestatic index) mk argsL.toArray X₁ hg hsize hdg hW (X₁.named hnamed) (hpre vm₁ X₁.warmed)
  exact ⟨v, vm₁, B, X₁.warmed, X', hpost, fun target h => hstep₁ _ fun acts => by rw [doInvoke_state]; exact hsteps.trans h⟩
theorem vx_runSW {y : MethodName} {bytes cc : ByteArray} {maxL nL mc ms n index : Nat} {ret : Option FieldType} {hh : List (Nat × Nat × Nat × Nat)} {ws : List Cond} {rm : Room} {Pc : Array Value → State → Prop} {Qc : Array Value → State → Outcome → State → Prop} {free : Addr → Prop} {Ts : List Cond} {own : String} {As rest : List Value} {g : JFrame}
    (S : CallFix p m c cc nL s args Ts own) (hM : Met l y ws rm Pc Qc mc ms free) (cw : vx_CSW R s args own index y bytes maxL ret hh ws rm mc ms n) (hp : PreS s H Pc As)
    (hg : g.method = m) (hn : As.length = n) (hsize : g.locals.size = nL) (hstack : g.stack = As.reverse ++ rest) (hW : 2 * g.monitorRoom + (rest.map fun v => v.category).sum ≤ 8) (hdg : decode cc g.pc = .ok (.invokestatic index, 3)) (hf : cells + mc ≤ R.cells ∧ slots + ms ≤ R.slots) :
    va_Run p l e R s m args below meth c H locs cells slots mc ms g rest (Qc As.toArray) (free) := by
  obtain ⟨⟨hrc, hrs, hfr, hlo, hws, hcw⟩, hcode, hini, hy, hlen, hl, hstt⟩ := cw
  have hK : Back l R p e below s args y 3 8 (PreOf R mc ms Pc) (PostOf Qc mc ms free) := va_backW (hh := hh) (bytes := bytes) (maxL := maxL) (ret := ret) hM hp.1 hrc hrs hfr hlo hws hcw (fun a' U hW => word_at hW (Or.inl (by first | rfl | simp [Cond.onTables, Cond.keeps, Cond.steady])) hini)
  obtain ⟨hx, hb, hml, ho, -⟩ := S
  intro T hT X
  obtain ⟨v, vm₁, ⟨U', l2, c2, s2⟩, hW₁, X', ⟨g', mk, t, L, e1, e2, hq, h1, hL, h2, h3⟩, st⟩ := vx_callSW X hx (hh := hh) (bytes := bytes) (maxL := maxL) (ret := ret) ho hl hstt hini hcode hy hK hg (hsize.trans hml.symm) (argsL := As) (rest := rest) (fun sig h => hn.trans (hlen sig h)) hstack hW (by rw [hb]; exact hdg)
    (fun vm₁ hW₁ => ⟨hf.1, hf.2, hp.2 (T.setVm vm₁) hT hW₁⟩)
  dsimp only [Pt.U, Pt.locs, Pt.cells, Pt.slots] at X' e1 e2 h1 h2 h3 st
  subst h1; subst h2; subst h3
  exact ⟨v, (T.setVm vm₁).calling g' mk As.toArray, t, U', L, hT, X', hL, e1, e2, hq, st⟩
/-- a thing of a world lies in the heap -/
theorem vx_lt {D : va_G} {cl : List vw_C} {ws : va_W} {H1 : Heap} (h : va_P D cl ws H1) {k : Nat} {q : Nat × va_E} (hk : ws[k]? = some q) : q.1 < H1.size := (h k q hk).lt
end VXS
/-! ===== END ===== -/
end
section
/-! the classes whose objects the abstract heap holds -/
def cn_vault : String := "TapeVault"
def cf_vault : u_T := fun k => match k with
  | 0 => ("TapeVault", "tree", "LTapeVault$Tree;", true)
  | 1 => ("TapeVault", "volumes", "LTapeVault$Volumes;", true)
  | 2 => ("TapeVault", "writer", "LTapeVault$Writer;", true)
  | 3 => ("TapeVault", "copy", "LTapeVault$Restored;", true)
  | 4 => ("TapeVault", "dumps", "[LTapeVault$Dump;", true)
  | _ => ("TapeVault", "dumpCount", "I", false)
def cn_tree : String := "TapeVault$Tree"
def cf_tree : u_T := fun k => match k with
  | 0 => ("TapeVault$Tree", "nodes", "[LTapeVault$Node;", true)
  | 1 => ("TapeVault$Tree", "nodeCount", "I", false)
  | _ => ("TapeVault$Tree", "time", "I", false)
def cn_vols : String := "TapeVault$Volumes"
def cf_vols : u_T := fun k => match k with
  | 0 => ("TapeVault$Volumes", "words", "[J", false)
  | 1 => ("TapeVault$Volumes", "spoiled", "[B", false)
  | 2 => ("TapeVault$Volumes", "capacity", "I", false)
  | 3 => ("TapeVault$Volumes", "written", "I", false)
  | _ => ("TapeVault$Volumes", "filled", "I", false)
def cn_writ : String := "TapeVault$Writer"
def cf_writ : u_T := fun k => match k with
  | 0 => ("TapeVault$Writer", "tree", "LTapeVault$Tree;", true)
  | _ => ("TapeVault$Writer", "volumes", "LTapeVault$Volumes;", true)
def cn_rest : String := "TapeVault$Restored"
def cf_rest : u_T := fun k => match k with
  | 0 => ("TapeVault$Restored", "volumes", "LTapeVault$Volumes;", true)
  | 1 => ("TapeVault$Restored", "facts", "[I", true)
  | 2 => ("TapeVault$Restored", "missing", "[I", true)
  | 3 => ("TapeVault$Restored", "lost", "[Z", true)
  | 4 => ("TapeVault$Restored", "there", "Z", false)
  | 5 => ("TapeVault$Restored", "chainLength", "I", false)
  | 6 => ("TapeVault$Restored", "lostCount", "I", false)
  | _ => ("TapeVault$Restored", "readCount", "I", false)
def cn_node : String := "TapeVault$Node"
def cf_node : u_T := fun k => match k with
  | 0 => ("TapeVault$Node", "number", "I", true)
  | 1 => ("TapeVault$Node", "kind", "I", true)
  | 2 => ("TapeVault$Node", "parent", "LTapeVault$Node;", false)
  | 3 => ("TapeVault$Node", "name", "I", false)
  | 4 => ("TapeVault$Node", "size", "I", false)
  | 5 => ("TapeVault$Node", "stamp", "I", false)
  | 6 => ("TapeVault$Node", "octets", "[B", false)
  | 7 => ("TapeVault$Node", "firstEntry", "LTapeVault$Node;", false)
  | _ => ("TapeVault$Node", "nextEntry", "LTapeVault$Node;", false)
def cn_dump : String := "TapeVault$Dump"
def cf_dump : u_T := fun k => match k with
  | 0 => ("TapeVault$Dump", "number", "I", true)
  | 1 => ("TapeVault$Dump", "level", "I", true)
  | 2 => ("TapeVault$Dump", "time", "I", true)
  | 3 => ("TapeVault$Dump", "base", "LTapeVault$Dump;", true)
  | 4 => ("TapeVault$Dump", "chainLength", "I", true)
  | 5 => ("TapeVault$Dump", "changed", "I", false)
  | 6 => ("TapeVault$Dump", "first", "I", false)
  | _ => ("TapeVault$Dump", "blocks", "I", false)
def cn_modl : String := "TapeVaultModel"
def cf_modl : u_T := fun k => match k with
  | 0 => ("TapeVaultModel", "err", "I", false)
  | 1 => ("TapeVaultModel", "kind", "[I", true)
  | 2 => ("TapeVaultModel", "parent", "[I", true)
  | 3 => ("TapeVaultModel", "name", "[I", true)
  | 4 => ("TapeVaultModel", "size", "[I", true)
  | 5 => ("TapeVaultModel", "stamp", "[I", true)
  | 6 => ("TapeVaultModel", "data", "[[B", true)
  | 7 => ("TapeVaultModel", "time", "I", false)
  | 8 => ("TapeVaultModel", "volume", "I", false)
  | 9 => ("TapeVaultModel", "written", "I", false)
  | 10 => ("TapeVaultModel", "level", "[I", true)
  | 11 => ("TapeVaultModel", "when", "[I", true)
  | 12 => ("TapeVaultModel", "base", "[I", true)
  | 13 => ("TapeVaultModel", "firstBlock", "[I", true)
  | 14 => ("TapeVaultModel", "firstRecord", "[I", true)
  | 15 => ("TapeVaultModel", "there", "[[Z", true)
  | 16 => ("TapeVaultModel", "dumps", "I", false)
  | 17 => ("TapeVaultModel", "rNode", "[I", true)
  | 18 => ("TapeVaultModel", "rKind", "[I", true)
  | 19 => ("TapeVaultModel", "rName", "[I", true)
  | 20 => ("TapeVaultModel", "rParent", "[I", true)
  | 21 => ("TapeVaultModel", "rSize", "[I", true)
  | 22 => ("TapeVaultModel", "rStamp", "[I", true)
  | 23 => ("TapeVaultModel", "rFrom", "[I", true)
  | 24 => ("TapeVaultModel", "octets", "[B", true)
  | 25 => ("TapeVaultModel", "entryName", "[I", true)
  | 26 => ("TapeVaultModel", "entryNode", "[I", true)
  | 27 => ("TapeVaultModel", "records", "I", false)
  | 28 => ("TapeVaultModel", "octetMany", "I", false)
  | 29 => ("TapeVaultModel", "entryMany", "I", false)
  | 30 => ("TapeVaultModel", "spoiled", "[Z", true)
  | 31 => ("TapeVaultModel", "label", "[Z", true)
  | 32 => ("TapeVaultModel", "xKind", "[I", true)
  | 33 => ("TapeVaultModel", "xParent", "[I", true)
  | 34 => ("TapeVaultModel", "xName", "[I", true)
  | 35 => ("TapeVaultModel", "xSize", "[I", true)
  | 36 => ("TapeVaultModel", "xStamp", "[I", true)
  | 37 => ("TapeVaultModel", "xEntries", "[I", true)
  | 38 => ("TapeVaultModel", "lost", "[Z", true)
  | 39 => ("TapeVaultModel", "xData", "[[B", true)
  | 40 => ("TapeVaultModel", "xEntryName", "[[I", true)
  | 41 => ("TapeVaultModel", "xEntryNode", "[[I", true)
  | 42 => ("TapeVaultModel", "restored", "Z", false)
  | 43 => ("TapeVaultModel", "chain", "I", false)
  | 44 => ("TapeVaultModel", "lostMany", "I", false)
  | 45 => ("TapeVaultModel", "read", "I", false)
  | 46 => ("TapeVaultModel", "block", "[I", true)
  | _ => ("TapeVaultModel", "filled", "I", false)
def vcl : List vw_C := [(cn_vault, cf_vault, 6), (cn_tree, cf_tree, 3), (cn_vols, cf_vols, 5), (cn_writ, cf_writ, 2), (cn_rest, cf_rest, 8), (cn_node, cf_node, 9), (cn_dump, cf_dump, 8), (cn_modl, cf_modl, 48)]
/-- the type of a field -/
def fty (T : u_T) (k : Nat) : FieldType := (parseFieldDescriptor (T k).2.2.1).getD .int
theorem vcl_ty : ∀ q ∈ vcl, ∀ k, k < q.2.2 → parseFieldDescriptor (q.2.1 k).2.2.1 = some (fty q.2.1 k) := by decide +kernel
theorem vcl_nm : ∀ q ∈ vcl, ∀ a, a < q.2.2 → ∀ b, b < q.2.2 → a ≠ b → (q.2.1 a).2.1 ≠ (q.2.1 b).2.1 := by decide +kernel
theorem vcl_own : ∀ q ∈ vcl, ∀ k, k < q.2.2 → (q.2.1 k).1 = q.1 := by decide +kernel
/-- words that stay true as the tables warm -/
def wk (w : Cond) : Bool := match w with
  | .fieldLinkNest .. => true
  | .methodLinkNest .. => true
  | .declares _ => true
  | .castable .. => true
  | .arrayOver (.object _) => true
  | w => goodWord w
theorem wk_warm {w : Cond} (hw : wk w = true) {s U : State} (hW : s.WarmedH U.vm) (h : w.before #[] s = true) : w.before #[] U = true := by
  cases w with
  | fieldLinkNest a i b n d q => exact va_Nw.warmF hW h
  | methodLinkNest a i x q => exact va_Nw.warmM hW h
  | declares x => exact va_Nw.warmD hW h
  | castable a b => exact va_Nw.warmC hW h
  | arrayOver ty =>
    cases ty with
    | object C => exact va_AO.moved hW.alike h
    | _ => exact absurd hw (by simp [wk, goodWord, Cond.onTables])
  | _ => exact word_at hW (good_of_word hw) h
theorem wk_any {w : Cond} (hw : wk w = true) {s : State} {A : Array Value} (h : w.before #[] s = true) : w.before A s = true := by
  cases w with
  | fieldLinkNest a i b n d q => exact va_tabs rfl rfl h
  | methodLinkNest a i x q => exact va_tabs rfl rfl h
  | declares x => exact va_tabs rfl rfl h
  | castable a b => exact va_tabs rfl rfl h
  | arrayOver ty => exact h
  | _ => exact word_at (State.WarmedH.refl s) (good_of_word hw) h
/-! abstract heaps: the next address, the slots laid so far, the cells that are known -/
abbrev AO : Type := (FieldType × Nat × (Nat → Value)) ⊕ (Nat × List Value)
abbrev AH : Type := Nat × Nat × (Nat → Option AO)
def hput (h : AH) (a : Nat) (o : AO) : AH := (h.1, h.2.1, va_up h.2.2 a (some o))
def hnew (h : AH) (o : AO) (k : Nat) : AH := (h.1 + 1, h.2.1 + k, va_up h.2.2 h.1 (some o))
def hskip (h : AH) (k : Nat) : AH := (h.1 + 1, h.2.1 + k, h.2.2)
/-- the array types that are made -/
def atys : List FieldType := [.int, .long, .byte, .boolean, .object "TapeVault$Node", .object "TapeVault$Dump", .array .byte, .array .boolean, .array .int]
/-- what is thrown, and the pairs of which one isn't the other -/
def exn : List String := ["java/lang/IllegalArgumentException", "java/lang/IllegalStateException", "java/lang/IndexOutOfBoundsException", "java/lang/UnsupportedOperationException"]
/-- what the tables say, at any state of the run -/
def Wd (D : va_G) (dA : FieldType → ClassId) (U : State) : Prop :=
  (∀ w ∈ lw_tbl, wk w = true → w.before #[] U = true) ∧ va_K D vcl [] U ∧ (∀ ty ∈ atys, ArrOfT U (dA ty) ty ∧ va_RA U (dA ty) ty) ∧
  (∀ a ∈ exn, ∀ b ∈ exn, a ≠ b → va_Nc a b U) ∧ (∀ ty ∈ ([.byte, .boolean, .int] : List FieldType), ∃ kA : Class, U.vm.classes[dA (.array ty)]? = some kA ∧ kA.kind = .array (dA ty) (.array ty))
theorem Wd.warm {D : va_G} {dA : FieldType → ClassId} {s U : State} (hW : s.WarmedH U.vm) (h : Wd D dA s) : Wd D dA U := by
  obtain ⟨h1, h2, h3, h4, h5⟩ := h
  refine ⟨fun w hw hk => wk_warm hk hW (h1 w hw hk), va_K.moved hW.alike h2, fun ty ht => ⟨arrOfT_moved hW.alike (h3 ty ht).1, va_RA.moved hW.alike (h3 ty ht).2⟩, fun a ha b hb hn => va_Nc.moved hW.alike (h4 a ha b hb hn), fun ty ht => ?_⟩
  obtain ⟨kA, e1, e2⟩ := h5 ty ht
  obtain ⟨k', hk', he⟩ := hW.alike.2.2 _ _ e1
  exact ⟨k', hk', by rw [he]; exact e2⟩
theorem Wd.word {D : va_G} {dA : FieldType → ClassId} {s : State} (h : Wd D dA s) {w : Cond} (hw : w ∈ lw_tbl) (hk : wk w = true) {A : Array Value} : w.before A s = true := wk_any hk (h.1 w hw hk)
/-- what lies below the run's own cells: the script, and what a throw reads -/
def Hw (base b L : Nat) (xs : Nat → Int32) (U : State) (H : Heap) : Prop :=
  vx_Zq Bundle.tN "UNASSIGNED_STACK" Bundle.steD (fun q => base ≤ q) U H ∧ vx_Zq Bundle.tN "SUPPRESSED_SENTINEL" Bundle.listD (fun q => base ≤ q) U H ∧ va_X b L xs U H ∧ b < base ∧ base ≤ H.size
theorem Hw.moved {base b L : Nat} {xs : Nat → Int32} {u U : State} {H : Heap} (hvm : u.vm.Alike U.vm) (h : Hw base b L xs u H) : Hw base b L xs U H :=
  ⟨vx_Zq.moved hvm h.1, vx_Zq.moved hvm h.2.1, va_X.moved hvm h.2.2.1, h.2.2.2⟩
theorem Hw.kept {base b L : Nat} {xs : Nat → Int32} {U : State} {H H1 : Heap} (h : Hw base b L xs U H) (hq : ∀ a : Nat, a < H.size → ¬ base ≤ a → H1[a]? = H[a]?) (hz : H.size ≤ H1.size) : Hw base b L xs U H1 :=
  ⟨vx_Zq.kept h.1 hq, vx_Zq.kept h.2.1 hq, va_X.kept h.2.2.1 (hq b (Nat.lt_of_lt_of_le h.2.2.2.1 h.2.2.2.2) (Nat.not_le.mpr h.2.2.2.1)), h.2.2.2.1, Nat.le_trans h.2.2.2.2 hz⟩
/-- one known cell -/
def oat (D : va_G) (dA : FieldType → ClassId) (a : Nat) (o : AO) (H : Heap) : Prop := match o with
  | .inl (ty, n, f) => ty ∈ atys ∧ H[a]? = some (arrV (dA ty) n f)
  | .inr (ci, fs) => ∃ r : vw_C, vcl[ci]? = some r ∧ fs.length = r.2.2 ∧ t_OB a (D.1 ci) r.2.2 (D.2 ci) H (vp_V fs)
theorem oat.kept {D : va_G} {dA : FieldType → ClassId} {a : Nat} {o : AO} {H H1 : Heap} (h : oat D dA a o H) (hq : H1[a]? = H[a]?) : oat D dA a o H1 := by
  match o, h with
  | .inl (ty, n, f), h => exact ⟨h.1, by rw [hq]; exact h.2⟩
  | .inr (ci, fs), h =>
    obtain ⟨r, h1, h2, h3⟩ := h
    exact ⟨r, h1, h2, h3.kept hq⟩
theorem oat.lt {D : va_G} {dA : FieldType → ClassId} {a : Nat} {o : AO} {H : Heap} (h : oat D dA a o H) : a < H.size := by
  match o, h with
  | .inl (ty, n, f), h => exact (Array.getElem?_eq_some_iff.mp h.2).1
  | .inr (ci, fs), h =>
    obtain ⟨r, h1, h2, cell, h3, -⟩ := h
    exact (Array.getElem?_eq_some_iff.mp h3).1
/-- the machine's heap holds the abstract one -/
def Rp (D : va_G) (dA : FieldType → ClassId) (base : Nat) (h : AH) (H : Heap) : Prop :=
  H.size = h.1 ∧ base ≤ h.1 ∧ ∀ (a : Nat) (o : AO), h.2.2 a = some o → base ≤ a ∧ oat D dA a o H
theorem Rp.put {D : va_G} {dA : FieldType → ClassId} {base : Nat} {h : AH} {H H1 : Heap} (hR : Rp D dA base h H) {a : Nat} {o : AO} (hb : base ≤ a) (ho : oat D dA a o H1) (hz : H1.size = H.size) (hq : ∀ q, q ≠ a → H1[q]? = H[q]?) : Rp D dA base (hput h a o) H1 := by
  refine ⟨hz.trans hR.1, hR.2.1, fun q x hx => ?_⟩
  by_cases e : q = a
  · subst e
    have : (va_up h.2.2 q (some o)) q = some x := hx
    rw [va_up_self] at this
    cases this
    exact ⟨hb, ho⟩
  · have h2 : (va_up h.2.2 a (some o)) q = some x := hx
    rw [va_up_ne _ _ e] at h2
    exact ⟨(hR.2.2 q x h2).1, (hR.2.2 q x h2).2.kept (hq q e)⟩
theorem Rp.new {D : va_G} {dA : FieldType → ClassId} {base : Nat} {h : AH} {H H1 : Heap} (hR : Rp D dA base h H) {o : AO} {k : Nat} (ho : oat D dA h.1 o H1) (hz : H1.size = h.1 + 1) (hq : ∀ q, q < h.1 → H1[q]? = H[q]?) : Rp D dA base (hnew h o k) H1 := by
  refine ⟨hz, Nat.le_succ_of_le hR.2.1, fun q x hx => ?_⟩
  by_cases e : q = h.1
  · subst e
    have : (va_up h.2.2 h.1 (some o)) h.1 = some x := hx
    rw [va_up_self] at this
    cases this
    exact ⟨hR.2.1, ho⟩
  · have h2 : (va_up h.2.2 h.1 (some o)) q = some x := hx
    rw [va_up_ne _ _ e] at h2
    have h3 := hR.2.2 q x h2
    exact ⟨h3.1, h3.2.kept (hq q (by rw [← hR.1]; exact h3.2.lt))⟩
theorem Rp.skip {D : va_G} {dA : FieldType → ClassId} {base : Nat} {h : AH} {H H1 : Heap} (hR : Rp D dA base h H) {k : Nat} (hz : H1.size = h.1 + 1) (hq : ∀ q, q < h.1 → H1[q]? = H[q]?) : Rp D dA base (hskip h k) H1 :=
  ⟨hz, Nat.le_succ_of_le hR.2.1, fun q x hx => ⟨(hR.2.2 q x hx).1, (hR.2.2 q x hx).2.kept (hq q (by rw [← hR.1]; exact (hR.2.2 q x hx).2.lt))⟩⟩
/-! locals by their places -/
def la (lv : List (Option Value)) : List (Nat × Value) := (List.range lv.length).filterMap fun i => (lv.getD i none).map fun v => (i, v)
theorem mem_la {lv : List (Option Value)} {i : Nat} {v : Value} : (i, v) ∈ la lv ↔ lv[i]? = some (some v) := by
  simp only [la, List.mem_filterMap, List.mem_range, Option.map_eq_some_iff, Prod.mk.injEq]
  constructor
  · rintro ⟨j, hj, w, hw, rfl, rfl⟩
    rw [List.getD_eq_getElem?_getD] at hw
    rw [List.getElem?_eq_getElem hj] at hw ⊢
    simpa using hw
  · intro h
    have hi : i < lv.length := (List.getElem?_eq_some_iff.mp h).1
    exact ⟨i, hi, v, by rw [List.getD_eq_getElem?_getD, h]; rfl, rfl, rfl⟩
def LV (ls : Array Slot) (nL : Nat) (lv : List (Option Value)) : Prop := lv.length = nL ∧ lv_has ls nL (la lv)
theorem LV.get {ls : Array Slot} {nL : Nat} {lv : List (Option Value)} (h : LV ls nL lv) {i : Nat} {v : Value} (hi : lv[i]? = some (some v)) : ls[i]? = some (.val v) := h.2.2.2 (i, v) (mem_la.mpr hi)
theorem lv_less {ls : Array Slot} {nL : Nat} {l l' : List (Nat × Value)} (h : lv_has ls nL l) (hl : ∀ q ∈ l', q ∈ l) : lv_has ls nL l' := ⟨h.1, h.2.1, fun q hq => h.2.2 q (hl q hq)⟩
/-- the place before is cleared where it held a long -/
def lvc (lv : List (Option Value)) (i : Nat) : List (Option Value) := match i with
  | 0 => lv
  | j + 1 => match lv[j]? with
    | some (some (.long _)) => lv.set j none
    | some (some (.double _)) => lv.set j none
    | _ => lv
def lv1 (lv : List (Option Value)) (i : Nat) (v : Value) : List (Option Value) := (lvc lv i).set i (some v)
def lv2 (lv : List (Option Value)) (i : Nat) (v : Value) : List (Option Value) := ((lvc lv i).set i (some v)).set (i + 1) none
theorem lvc_len (lv : List (Option Value)) (i : Nat) : (lvc lv i).length = lv.length := by
  unfold lvc
  split
  · rfl
  · split <;> simp
theorem lvc_get {lv : List (Option Value)} {i j : Nat} {w : Value} (h : (lvc lv i)[j]? = some (some w)) : lv[j]? = some (some w) ∧ ¬ (j + 1 = i ∧ w.category = 2) := by
  unfold lvc at h
  split at h
  · exact ⟨h, fun e => by omega⟩
  · rename_i k
    split at h
    · rename_i x hx
      rw [List.getElem?_set] at h
      by_cases e : k = j
      · subst e
        simp at h
      · rw [if_neg e] at h
        exact ⟨h, fun q => e (by omega)⟩
    · rename_i x hx
      rw [List.getElem?_set] at h
      by_cases e : k = j
      · subst e
        simp at h
      · rw [if_neg e] at h
        exact ⟨h, fun q => e (by omega)⟩
    · rename_i n1 n2
      refine ⟨h, fun q => ?_⟩
      have e : j = k := by omega
      subst e
      cases w <;> simp [Value.category] at q
      · exact n1 _ h
      · exact n2 _ h
theorem LV.set1 {ls : Array Slot} {nL : Nat} {lv : List (Option Value)} {i : Nat} {v : Value} (h : LV ls nL lv) (hi : i < nL) (hc : v.category = 1) : ∃ ls', storeLocals ls i v = some ls' ∧ LV ls' nL (lv1 lv i v) := by
  obtain ⟨ls', e, h'⟩ := lv_store1 h.2 hi hc
  refine ⟨ls', e, by simp [lv1, lvc_len, h.1], lv_less h' fun q hq => ?_⟩
  obtain ⟨j, w⟩ := q
  have hq := mem_la.mp hq
  unfold lv1 at hq
  rw [List.getElem?_set] at hq
  by_cases e2 : i = j
  · subst e2
    rw [if_pos rfl, if_pos (by rw [lvc_len, h.1]; exact hi)] at hq
    cases hq
    exact List.mem_cons_self
  · rw [if_neg e2] at hq
    obtain ⟨q1, q2⟩ := lvc_get hq
    refine List.mem_cons_of_mem _ (List.mem_filter.mpr ⟨mem_la.mpr q1, ?_⟩)
    simp only [Bool.and_eq_true, Bool.not_eq_true', beq_eq_false_iff_ne, ne_eq]
    exact ⟨fun x => e2 x.symm, by
      cases hz : (j + 1 == i && w.category == 2)
      · rfl
      · simp only [Bool.and_eq_true, beq_iff_eq] at hz
        exact absurd hz q2⟩
theorem LV.set2 {ls : Array Slot} {nL : Nat} {lv : List (Option Value)} {i : Nat} {v : Value} (h : LV ls nL lv) (hi : i + 1 < nL) (hc : v.category = 2) : ∃ ls', storeLocals ls i v = some ls' ∧ LV ls' nL (lv2 lv i v) := by
  obtain ⟨ls', e, h'⟩ := lv_store2 h.2 hi hc
  refine ⟨ls', e, by simp [lv2, lvc_len, h.1], lv_less h' fun q hq => ?_⟩
  obtain ⟨j, w⟩ := q
  have hq := mem_la.mp hq
  unfold lv2 at hq
  rw [List.getElem?_set] at hq
  by_cases e3 : i + 1 = j
  · subst e3
    rw [if_pos rfl] at hq
    split at hq <;> cases hq
  rw [if_neg e3, List.getElem?_set] at hq
  by_cases e2 : i = j
  · subst e2
    rw [if_pos rfl, if_pos (by rw [lvc_len, h.1]; omega)] at hq
    cases hq
    exact List.mem_cons_self
  · rw [if_neg e2] at hq
    obtain ⟨q1, q2⟩ := lvc_get hq
    refine List.mem_cons_of_mem _ (List.mem_filter.mpr ⟨mem_la.mpr q1, ?_⟩)
    simp only [Bool.and_eq_true, Bool.not_eq_true', beq_eq_false_iff_ne, ne_eq]
    exact ⟨fun x => e2 x.symm, fun x => e3 x.symm, by
      cases hz : (j + 1 == i && w.category == 2)
      · rfl
      · simp only [Bool.and_eq_true, beq_iff_eq] at hz
        exact absurd hz q2⟩
end
section
/-! the types of the fields, class by class; the constants; the links of fields -/
def vty : List (List FieldType) := [[.object "TapeVault$Tree", .object "TapeVault$Volumes", .object "TapeVault$Writer", .object "TapeVault$Restored", .array (.object "TapeVault$Dump"), .int],
  [.array (.object "TapeVault$Node"), .int, .int],
  [.array (.long), .array (.byte), .int, .int, .int],
  [.object "TapeVault$Tree", .object "TapeVault$Volumes"],
  [.object "TapeVault$Volumes", .array (.int), .array (.int), .array (.boolean), .boolean, .int, .int, .int],
  [.int, .int, .object "TapeVault$Node", .int, .int, .int, .array (.byte), .object "TapeVault$Node", .object "TapeVault$Node"],
  [.int, .int, .int, .object "TapeVault$Dump", .int, .int, .int, .int],
  [.int, .array (.int), .array (.int), .array (.int), .array (.int), .array (.int), .array (.array (.byte)), .int, .int, .int, .array (.int), .array (.int), .array (.int), .array (.int), .array (.int), .array (.array (.boolean)), .int, .array (.int), .array (.int), .array (.int), .array (.int), .array (.int), .array (.int), .array (.int), .array (.byte), .array (.int), .array (.int), .int, .int, .int, .array (.boolean), .array (.boolean), .array (.int), .array (.int), .array (.int), .array (.int), .array (.int), .array (.int), .array (.boolean), .array (.array (.byte)), .array (.array (.int)), .array (.array (.int)), .boolean, .int, .int, .int, .array (.int), .int]]
theorem vty_ok : ∀ ci, ci < 8 → ∃ q ts, vcl[ci]? = some q ∧ vty[ci]? = some ts ∧ ts.length = q.2.2 ∧ ∀ k, k < q.2.2 → ts[k]? = some (fty q.2.1 k) := by
  intro ci hci
  have key : ∀ ci, ci < 8 → (match vcl[ci]?, vty[ci]? with | some q, some ts => decide (ts.length = q.2.2) && (List.range q.2.2).all (fun k => decide (ts[k]? = some (fty q.2.1 k))) | _, _ => false) = true := by decide +kernel
  have h := key ci hci
  split at h
  · rename_i q ts h1 h2
    simp only [Bool.and_eq_true, decide_eq_true_eq, List.all_eq_true, List.mem_range] at h
    exact ⟨q, ts, h1, h2, h.1, h.2⟩
  · cases h
def KI : List (String × Nat × Int32 × Nat) := [("TapeVaultModel", 71, 256000, 835), ("TapeVaultModel", 76, 84000, 836)]
def KJ : List (String × Nat × Int64 × Nat) := [("TapeVault$Volumes", 62, 255, 720), ("TapeVaultLaw", 85, 4294967295, 1121)]
theorem KI_ok : ∀ q ∈ KI, lw_tbl[q.2.2.2]? = some (.constant q.1 q.2.1 q.2.2.1) := by decide +kernel
theorem KJ_ok : ∀ q ∈ KJ, lw_tbl[q.2.2.2]? = some (.constantLong q.1 q.2.1 q.2.2.1) := by decide +kernel
def FT : List (String × Nat × Nat × Nat × Bool × Nat) := [("TapeVault$Tree", 11, 1, 0, false, 77),
  ("TapeVault$Tree", 20, 1, 1, false, 78),
  ("TapeVault", 208, 1, 1, true, 79),
  ("TapeVault$Tree", 24, 1, 2, false, 80),
  ("TapeVault", 124, 1, 2, true, 81),
  ("TapeVault$Volumes", 9, 2, 0, false, 95),
  ("TapeVault$Volumes", 15, 2, 1, false, 96),
  ("TapeVault$Volumes", 19, 2, 2, false, 97),
  ("TapeVault$Volumes", 29, 2, 3, false, 98),
  ("TapeVault", 214, 2, 3, true, 99),
  ("TapeVault$Volumes", 32, 2, 4, false, 100),
  ("TapeVault", 144, 2, 4, true, 101),
  ("TapeVault$Writer", 9, 3, 0, false, 121),
  ("TapeVault$Writer", 15, 3, 1, false, 122),
  ("TapeVault$Restored", 22, 4, 0, false, 134),
  ("TapeVault$Restored", 9, 4, 1, false, 135),
  ("TapeVault$Restored", 15, 4, 2, false, 136),
  ("TapeVault$Restored", 18, 4, 3, false, 137),
  ("TapeVault$Restored", 26, 4, 4, false, 138),
  ("TapeVault$Restored", 30, 4, 5, false, 139),
  ("TapeVault", 217, 4, 5, true, 140),
  ("TapeVault$Restored", 34, 4, 6, false, 141),
  ("TapeVault", 220, 4, 6, true, 142),
  ("TapeVault$Restored", 37, 4, 7, false, 143),
  ("TapeVault", 223, 4, 7, true, 144),
  ("TapeVault$Node", 9, 5, 0, false, 179),
  ("TapeVault$Writer", 92, 5, 0, true, 180),
  ("TapeVault$Tree", 56, 5, 0, true, 181),
  ("TapeVault$Node", 15, 5, 1, false, 182),
  ("TapeVault$Tree", 35, 5, 1, true, 183),
  ("TapeVault$Writer", 93, 5, 1, true, 184),
  ("TapeVault", 114, 5, 1, true, 185),
  ("TapeVault$Node", 18, 5, 2, false, 186),
  ("TapeVault$Tree", 59, 5, 2, true, 187),
  ("TapeVault$Node", 25, 5, 3, false, 188),
  ("TapeVault$Writer", 96, 5, 3, true, 189),
  ("TapeVault$Tree", 77, 5, 3, true, 190),
  ("TapeVault", 84, 5, 4, true, 191),
  ("TapeVault$Writer", 102, 5, 4, true, 192),
  ("TapeVault$Node", 35, 5, 4, false, 193),
  ("TapeVault$Tree", 49, 5, 4, true, 194),
  ("TapeVault$Writer", 105, 5, 5, true, 195),
  ("TapeVault$Tree", 42, 5, 5, true, 196),
  ("TapeVault$Node", 31, 5, 6, false, 197),
  ("TapeVault$Node", 22, 5, 7, false, 198),
  ("TapeVault$Writer", 112, 5, 7, true, 199),
  ("TapeVault$Node", 28, 5, 8, false, 200),
  ("TapeVault$Writer", 116, 5, 8, true, 201),
  ("TapeVault", 10, 0, 0, false, 236),
  ("TapeVault", 19, 0, 1, false, 237),
  ("TapeVault", 28, 0, 2, false, 238),
  ("TapeVault", 37, 0, 3, false, 239),
  ("TapeVault", 43, 0, 4, false, 240),
  ("TapeVault", 121, 0, 5, false, 241),
  ("TapeVault$Dump", 9, 6, 0, false, 498),
  ("TapeVault$Writer", 64, 6, 0, true, 499),
  ("TapeVault", 166, 6, 0, true, 500),
  ("TapeVault$Dump", 15, 6, 1, false, 501),
  ("TapeVault$Writer", 60, 6, 1, true, 502),
  ("TapeVault", 232, 6, 1, true, 503),
  ("TapeVault$Dump", 18, 6, 2, false, 504),
  ("TapeVault$Writer", 67, 6, 2, true, 505),
  ("TapeVault$Dump", 21, 6, 3, false, 506),
  ("TapeVault$Writer", 70, 6, 3, true, 507),
  ("TapeVault$Dump", 25, 6, 4, false, 508),
  ("TapeVault$Restored", 47, 6, 4, true, 509),
  ("TapeVault$Writer", 74, 6, 5, true, 510),
  ("TapeVault$Dump", 31, 6, 5, false, 511),
  ("TapeVault$Restored", 95, 6, 5, true, 512),
  ("TapeVault", 141, 6, 5, true, 513),
  ("TapeVault$Dump", 28, 6, 6, false, 514),
  ("TapeVault$Restored", 76, 6, 6, true, 515),
  ("TapeVault", 147, 6, 6, true, 516),
  ("TapeVault$Restored", 85, 6, 7, true, 517),
  ("TapeVault", 156, 6, 7, true, 518),
  ("TapeVaultModel", 129, 7, 0, false, 847),
  ("TapeVaultModel", 9, 7, 1, false, 848),
  ("TapeVaultModel", 13, 7, 2, false, 849),
  ("TapeVaultModel", 16, 7, 3, false, 850),
  ("TapeVaultModel", 19, 7, 4, false, 851),
  ("TapeVaultModel", 22, 7, 5, false, 852),
  ("TapeVaultModel", 27, 7, 6, false, 853),
  ("TapeVaultModel", 137, 7, 7, false, 854),
  ("TapeVaultModel", 140, 7, 8, false, 855),
  ("TapeVaultModel", 143, 7, 9, false, 856),
  ("TapeVaultModel", 30, 7, 10, false, 857),
  ("TapeVaultModel", 33, 7, 11, false, 858),
  ("TapeVaultModel", 36, 7, 12, false, 859),
  ("TapeVaultModel", 39, 7, 13, false, 860),
  ("TapeVaultModel", 42, 7, 14, false, 861),
  ("TapeVaultModel", 47, 7, 15, false, 862),
  ("TapeVaultModel", 146, 7, 16, false, 863),
  ("TapeVaultModel", 50, 7, 17, false, 864),
  ("TapeVaultModel", 53, 7, 18, false, 865),
  ("TapeVaultModel", 56, 7, 19, false, 866),
  ("TapeVaultModel", 59, 7, 20, false, 867),
  ("TapeVaultModel", 62, 7, 21, false, 868),
  ("TapeVaultModel", 65, 7, 22, false, 869),
  ("TapeVaultModel", 68, 7, 23, false, 870),
  ("TapeVaultModel", 72, 7, 24, false, 871),
  ("TapeVaultModel", 77, 7, 25, false, 872),
  ("TapeVaultModel", 80, 7, 26, false, 873),
  ("TapeVaultModel", 149, 7, 27, false, 874),
  ("TapeVaultModel", 152, 7, 28, false, 875),
  ("TapeVaultModel", 155, 7, 29, false, 876),
  ("TapeVaultModel", 83, 7, 30, false, 877),
  ("TapeVaultModel", 87, 7, 31, false, 878),
  ("TapeVaultModel", 90, 7, 32, false, 879),
  ("TapeVaultModel", 93, 7, 33, false, 880),
  ("TapeVaultModel", 96, 7, 34, false, 881),
  ("TapeVaultModel", 99, 7, 35, false, 882),
  ("TapeVaultModel", 102, 7, 36, false, 883),
  ("TapeVaultModel", 105, 7, 37, false, 884),
  ("TapeVaultModel", 108, 7, 38, false, 885),
  ("TapeVaultModel", 111, 7, 39, false, 886),
  ("TapeVaultModel", 116, 7, 40, false, 887),
  ("TapeVaultModel", 119, 7, 41, false, 888),
  ("TapeVaultModel", 158, 7, 42, false, 889),
  ("TapeVaultModel", 162, 7, 43, false, 890),
  ("TapeVaultModel", 165, 7, 44, false, 891),
  ("TapeVaultModel", 168, 7, 45, false, 892),
  ("TapeVaultModel", 122, 7, 46, false, 893),
  ("TapeVaultModel", 206, 7, 47, false, 894)]
/-- the word of a field's link -/
def ftw (r : String × Nat × Nat × Nat × Bool × Nat) (q : vw_C) : Cond := bif r.2.2.2.2.1 then .fieldLinkNest r.1 r.2.1 q.1 (q.2.1 r.2.2.2.1).2.1 (q.2.1 r.2.2.2.1).2.2.1 "TapeVault" else .fieldLink r.1 r.2.1 q.1 (q.2.1 r.2.2.2.1).2.1 (q.2.1 r.2.2.2.1).2.2.1
def ftok (r : String × Nat × Nat × Nat × Bool × Nat) : Bool := match vcl[r.2.2.1]? with
  | some q => decide (r.2.2.2.1 < q.2.2) && decide (lw_tbl[r.2.2.2.2.2]? = some (ftw r q))
  | none => false
theorem FT_ok : FT.all ftok = true := by decide +kernel
/-- the words that say how an object lies -/
theorem vcl_in : ∀ q ∈ vcl, ∀ w ∈ u_ws q.1 q.2.1 q.2.2, w ∈ lw_tbl := by decide +kernel
theorem vcl_inst : ∀ q ∈ vcl, Cond.instantiable q.1 q.2.2 ∈ lw_tbl ∧ Cond.initialized q.1 ∈ lw_tbl := by decide +kernel
end
section
/-! one step of a method's frame: what it pops, what it pushes, what it does to the abstract heap -/
abbrev EN : Type := Nat × Instr × Nat × List Nat
abbrev MI : Type := MethodName × ByteArray × Nat × Option FieldType × List (Nat × Nat × Nat × Nat) × List EN
abbrev SR : Type := Nat × List (Option Value) × List Value × AH
def pI (st : List Value) (f : Int32 → List Value → Option SR) : Option SR := match st with
  | .int x :: r => f x r
  | _ => none
def pJ (st : List Value) (f : Int64 → List Value → Option SR) : Option SR := match st with
  | .long x :: r => f x r
  | _ => none
def pR (st : List Value) (f : Nat → List Value → Option SR) : Option SR := match st with
  | .ref x :: r => f x r
  | _ => none
def pQ (st : List Value) (f : Option Nat → List Value → Option SR) : Option SR := match st with
  | .ref x :: r => f (some x) r
  | .null :: r => f none r
  | _ => none
/-- a value of one slot -/
def p1 (st : List Value) (f : Value → List Value → Option SR) : Option SR := match st with
  | .int x :: r => f (.int x) r
  | .ref x :: r => f (.ref x) r
  | .null :: r => f .null r
  | _ => none
def gI (lv : List (Option Value)) (i : Nat) (f : Int32 → Option SR) : Option SR := match lv[i]? with
  | some (some (.int x)) => f x
  | _ => none
def gJ (lv : List (Option Value)) (i : Nat) (f : Int64 → Option SR) : Option SR := match lv[i]? with
  | some (some (.long x)) => f x
  | _ => none
def gQ (lv : List (Option Value)) (i : Nat) (f : Option Nat → Option SR) : Option SR := match lv[i]? with
  | some (some (.ref x)) => f (some x)
  | some (some .null) => f none
  | _ => none
/-- a value that a field of the type takes -/
def fitv (ty : FieldType) (v : Value) : Bool := match ty, v with
  | .int, .int _ => true
  | .boolean, .int x => x == 0 || x == 1
  | .object _, .ref _ => true
  | .object _, .null => true
  | .array _, .ref _ => true
  | .array _, .null => true
  | _, _ => false
def bI (i : Int32) (n : Nat) (z : Option SR) : Option SR := if i < 0 ∨ n ≤ i.toNatClampNeg then none else z
theorem pI_inv {st : List Value} {f : Int32 → List Value → Option SR} {z : SR} (h : pI st f = some z) : ∃ x r, st = .int x :: r ∧ f x r = some z := by
  unfold pI at h
  split at h
  · exact ⟨_, _, rfl, h⟩
  · cases h
theorem pJ_inv {st : List Value} {f : Int64 → List Value → Option SR} {z : SR} (h : pJ st f = some z) : ∃ x r, st = .long x :: r ∧ f x r = some z := by
  unfold pJ at h
  split at h
  · exact ⟨_, _, rfl, h⟩
  · cases h
theorem pR_inv {st : List Value} {f : Nat → List Value → Option SR} {z : SR} (h : pR st f = some z) : ∃ x r, st = .ref x :: r ∧ f x r = some z := by
  unfold pR at h
  split at h
  · exact ⟨_, _, rfl, h⟩
  · cases h
theorem pQ_inv {st : List Value} {f : Option Nat → List Value → Option SR} {z : SR} (h : pQ st f = some z) : ∃ x r, st = va_rf x :: r ∧ f x r = some z := by
  unfold pQ at h
  split at h
  · exact ⟨_, _, rfl, h⟩
  · exact ⟨_, _, rfl, h⟩
  · cases h
theorem p1_inv {st : List Value} {f : Value → List Value → Option SR} {z : SR} (h : p1 st f = some z) : ∃ v r, st = v :: r ∧ v.category = 1 ∧ f v r = some z := by
  unfold p1 at h
  split at h
  · exact ⟨_, _, rfl, rfl, h⟩
  · exact ⟨_, _, rfl, rfl, h⟩
  · exact ⟨_, _, rfl, rfl, h⟩
  · cases h
theorem gI_inv {lv : List (Option Value)} {i : Nat} {f : Int32 → Option SR} {z : SR} (h : gI lv i f = some z) : ∃ x, lv[i]? = some (some (.int x)) ∧ f x = some z := by
  unfold gI at h
  split at h
  · exact ⟨_, by assumption, h⟩
  · cases h
theorem gJ_inv {lv : List (Option Value)} {i : Nat} {f : Int64 → Option SR} {z : SR} (h : gJ lv i f = some z) : ∃ x, lv[i]? = some (some (.long x)) ∧ f x = some z := by
  unfold gJ at h
  split at h
  · exact ⟨_, by assumption, h⟩
  · cases h
theorem gQ_inv {lv : List (Option Value)} {i : Nat} {f : Option Nat → Option SR} {z : SR} (h : gQ lv i f = some z) : ∃ x, lv[i]? = some (some (va_rf x)) ∧ f x = some z := by
  unfold gQ at h
  split at h
  · exact ⟨_, by assumption, h⟩
  · exact ⟨none, by assumption, h⟩
  · cases h
theorem bI_inv {i : Int32} {n : Nat} {z : Option SR} {y : SR} (h : bI i n z = some y) : vp_in i n ∧ z = some y := by
  unfold bI at h
  split at h
  · cases h
  · exact ⟨by assumption, h⟩
def aI (h : AH) (a : Nat) (f : FieldType → Nat → (Nat → Value) → Option SR) : Option SR := match h.2.2 a with
  | some (.inl (ty, n, g)) => f ty n g
  | _ => none
theorem aI_inv {h : AH} {a : Nat} {f : FieldType → Nat → (Nat → Value) → Option SR} {z : SR} (hh : aI h a f = some z) : ∃ ty n g, h.2.2 a = some (.inl (ty, n, g)) ∧ f ty n g = some z := by
  unfold aI at hh
  split at hh
  · exact ⟨_, _, _, by assumption, hh⟩
  · cases hh
def oI (h : AH) (a : Nat) (f : Nat → List Value → Option SR) : Option SR := match h.2.2 a with
  | some (.inr (ci, fs)) => f ci fs
  | _ => none
theorem oI_inv {h : AH} {a : Nat} {f : Nat → List Value → Option SR} {z : SR} (hh : oI h a f = some z) : ∃ ci fs, h.2.2 a = some (.inr (ci, fs)) ∧ f ci fs = some z := by
  unfold oI at hh
  split at hh
  · exact ⟨_, _, by assumption, hh⟩
  · cases hh
def iff' (c : Prop) [Decidable c] (z : Option SR) : Option SR := if c then z else none
theorem iff'_inv {c : Prop} [Decidable c] {z : Option SR} {y : SR} (h : iff' c z = some y) : c ∧ z = some y := by
  unfold iff' at h
  split at h
  · exact ⟨by assumption, h⟩
  · cases h
def nI1 (l : List Nat) (f : Nat → Option SR) : Option SR := match l with
  | a :: _ => f a
  | _ => none
def nI3 (l : List Nat) (f : Nat → Nat → Option SR) : Option SR := match l with
  | _ :: a :: b :: _ => f a b
  | _ => none
def newT (at_ : ArrayType) : Option FieldType := match at_ with
  | .int => some .int
  | .long => some .long
  | .byte => some .byte
  | .boolean => some .boolean
  | _ => none
/-- the step: sb, sL, sx are the script's place, length and ints -/
def stp (sb sL : Nat) (sx : Nat → Int32) (nL : Nat) (ins : Instr) (nx : Nat) (ri : List Nat) (lv : List (Option Value)) (st : List Value) (h : AH) : Option SR :=
  match ins with
  | .iconst n => some (nx, lv, .int (Int32.ofInt n) :: st, h)
  | .bipush n => some (nx, lv, .int (Int8.ofInt n).toInt32 :: st, h)
  | .sipush n => some (nx, lv, .int (Int16.ofInt n).toInt32 :: st, h)
  | .lconst n => some (nx, lv, .long (Int64.ofNat (n : Nat)) :: st, h)
  | .aconst_null => some (nx, lv, .null :: st, h)
  | .ldc _ => nI1 ri fun r => match KI[r]? with
    | some q => some (nx, lv, .int q.2.2.1 :: st, h)
    | none => none
  | .ldc2_w _ => nI1 ri fun r => match KJ[r]? with
    | some q => some (nx, lv, .long q.2.2.1 :: st, h)
    | none => none
  | .iload_n k => gI lv k fun x => some (nx, lv, .int x :: st, h)
  | .iload k => gI lv k fun x => some (nx, lv, .int x :: st, h)
  | .lload_n k => gJ lv k fun x => some (nx, lv, .long x :: st, h)
  | .lload k => gJ lv k fun x => some (nx, lv, .long x :: st, h)
  | .aload_n k => gQ lv k fun x => some (nx, lv, va_rf x :: st, h)
  | .aload k => gQ lv k fun x => some (nx, lv, va_rf x :: st, h)
  | .istore_n k => pI st fun x st => iff' ((k : Nat) < nL) (some (nx, lv1 lv k (.int x), st, h))
  | .istore k => pI st fun x st => iff' (k < nL) (some (nx, lv1 lv k (.int x), st, h))
  | .lstore_n k => pJ st fun x st => iff' ((k : Nat) + 1 < nL) (some (nx, lv2 lv k (.long x), st, h))
  | .lstore k => pJ st fun x st => iff' (k + 1 < nL) (some (nx, lv2 lv k (.long x), st, h))
  | .astore_n k => pQ st fun x st => iff' ((k : Nat) < nL) (some (nx, lv1 lv k (va_rf x), st, h))
  | .astore k => pQ st fun x st => iff' (k < nL) (some (nx, lv1 lv k (va_rf x), st, h))
  | .iinc k n => gI lv k fun x => iff' (k < nL) (some (nx, lv1 lv k (.int (x + Int32.ofInt n)), st, h))
  | .iadd => pI st fun y st => pI st fun x st => some (nx, lv, .int (x + y) :: st, h)
  | .isub => pI st fun y st => pI st fun x st => some (nx, lv, .int (x - y) :: st, h)
  | .imul => pI st fun y st => pI st fun x st => some (nx, lv, .int (x * y) :: st, h)
  | .iand => pI st fun y st => pI st fun x st => some (nx, lv, .int (x &&& y) :: st, h)
  | .ior => pI st fun y st => pI st fun x st => some (nx, lv, .int (x ||| y) :: st, h)
  | .idiv => pI st fun y st => pI st fun x st => iff' (¬ y = 0) (some (nx, lv, .int (x / y) :: st, h))
  | .irem => pI st fun y st => pI st fun x st => iff' (¬ y = 0) (some (nx, lv, .int (x - x / y * y) :: st, h))
  | .ishl => pI st fun y st => pI st fun x st => some (nx, lv, .int (x <<< (y &&& 31)) :: st, h)
  | .ishr => pI st fun y st => pI st fun x st => some (nx, lv, .int (x >>> (y &&& 31)) :: st, h)
  | .iushr => pI st fun y st => pI st fun x st => some (nx, lv, .int (x.toUInt32 >>> (y.toUInt32 &&& Int32.toUInt32 31)).toInt32 :: st, h)
  | .ladd => pJ st fun y st => pJ st fun x st => some (nx, lv, .long (x + y) :: st, h)
  | .lsub => pJ st fun y st => pJ st fun x st => some (nx, lv, .long (x - y) :: st, h)
  | .lmul => pJ st fun y st => pJ st fun x st => some (nx, lv, .long (x * y) :: st, h)
  | .land => pJ st fun y st => pJ st fun x st => some (nx, lv, .long (x &&& y) :: st, h)
  | .lor => pJ st fun y st => pJ st fun x st => some (nx, lv, .long (x ||| y) :: st, h)
  | .lshl => pI st fun y st => pJ st fun x st => some (nx, lv, .long (x <<< (y.toInt64 &&& 63)) :: st, h)
  | .lshr => pI st fun y st => pJ st fun x st => some (nx, lv, .long (x >>> (y.toInt64 &&& 63)) :: st, h)
  | .lushr => pI st fun y st => pJ st fun x st => some (nx, lv, .long (x.toUInt64 >>> (y.toInt64.toUInt64 &&& Int64.toUInt64 63)).toInt64 :: st, h)
  | .lcmp => pJ st fun y st => pJ st fun x st => some (nx, lv, .int (lg_cmp x y) :: st, h)
  | .i2l => pI st fun x st => some (nx, lv, .long x.toInt64 :: st, h)
  | .l2i => pJ st fun x st => some (nx, lv, .int x.toInt32 :: st, h)
  | .i2b => pI st fun x st => some (nx, lv, .int x.toInt8.toInt32 :: st, h)
  | .dup => p1 st fun v st => some (nx, lv, v :: v :: st, h)
  | .pop => p1 st fun _ st => some (nx, lv, st, h)
  | .dup_x1 => p1 st fun v st => p1 st fun w st => some (nx, lv, v :: w :: v :: st, h)
  | .dup_x2 => p1 st fun v st => p1 st fun w st => p1 st fun u st => some (nx, lv, v :: w :: u :: v :: st, h)
  | .dup2 => p1 st fun v st => p1 st fun w st => some (nx, lv, v :: w :: v :: w :: st, h)
  | .goto _ => nI1 ri fun t => some (t, lv, st, h)
  | .ifCond c _ => nI1 ri fun t => pI st fun x st => some (match c with
    | .eq => if x = 0 then t else nx
    | .ne => if x = 0 then nx else t
    | .lt => if x < 0 then t else nx
    | .ge => if 0 ≤ x then t else nx
    | .gt => if 0 < x then t else nx
    | .le => if x ≤ 0 then t else nx, lv, st, h)
  | .if_icmp c _ => nI1 ri fun t => pI st fun y st => pI st fun x st => some (match c with
    | .eq => if x = y then t else nx
    | .ne => if x = y then nx else t
    | .lt => if x < y then t else nx
    | .ge => if y ≤ x then t else nx
    | .gt => if y < x then t else nx
    | .le => if x ≤ y then t else nx, lv, st, h)
  | .ifnull _ => nI1 ri fun t => pQ st fun x st => some (match x with | none => t | some _ => nx, lv, st, h)
  | .ifnonnull _ => nI1 ri fun t => pQ st fun x st => some (match x with | none => nx | some _ => t, lv, st, h)
  | .if_acmp c _ => nI1 ri fun t => pQ st fun y st => pQ st fun x st => some (match c with
    | .eq => if x = y then t else nx
    | .ne => if x = y then nx else t, lv, st, h)
  | .tableswitch _ lo hi _ => pI st fun x st => if x.toInt < lo ∨ hi < x.toInt then nI1 ri fun t => some (t, lv, st, h) else (ri[(x.toInt - lo).toNat + 1]?).bind fun t => some (t, lv, st, h)
  | .getfield _ => nI3 ri fun ci k => pR st fun a st => oI h a fun cj fs => iff' (cj = ci) ((fs[k]?).bind fun v => some (nx, lv, v :: st, h))
  | .putfield _ => nI3 ri fun ci k => match st with
    | v :: st => pR st fun a st => oI h a fun cj fs => iff' (cj = ci) (match (vty.getD ci [])[k]? with
      | some ty => iff' (fitv ty v = true) (some (nx, lv, st, hput h a (.inr (ci, fs.set k v))))
      | none => none)
    | _ => none
  | .arraylength => pR st fun a st => if a = sb then some (nx, lv, .int (Int32.ofNat sL) :: st, h) else aI h a fun _ n _ => some (nx, lv, .int (Int32.ofNat n) :: st, h)
  | .iaload => pI st fun i st => pR st fun a st => if a = sb then bI i sL (some (nx, lv, .int (sx i.toNatClampNeg) :: st, h)) else aI h a fun ty n f => match ty with
    | .int => bI i n (some (nx, lv, f i.toNatClampNeg :: st, h))
    | _ => none
  | .laload => pI st fun i st => pR st fun a st => aI h a fun ty n f => match ty with
    | .long => bI i n (some (nx, lv, f i.toNatClampNeg :: st, h))
    | _ => none
  | .baload => pI st fun i st => pR st fun a st => aI h a fun ty n f => match ty with
    | .byte => bI i n (some (nx, lv, f i.toNatClampNeg :: st, h))
    | .boolean => bI i n (some (nx, lv, f i.toNatClampNeg :: st, h))
    | _ => none
  | .aaload => pI st fun i st => pR st fun a st => aI h a fun ty n f => match ty with
    | .object _ => bI i n (some (nx, lv, f i.toNatClampNeg :: st, h))
    | .array _ => bI i n (some (nx, lv, f i.toNatClampNeg :: st, h))
    | _ => none
  | .iastore => pI st fun x st => pI st fun i st => pR st fun a st => aI h a fun ty n f => match ty with
    | .int => bI i n (some (nx, lv, st, hput h a (.inl (.int, n, updV f i.toNatClampNeg (.int x)))))
    | _ => none
  | .lastore => pJ st fun x st => pI st fun i st => pR st fun a st => aI h a fun ty n f => match ty with
    | .long => bI i n (some (nx, lv, st, hput h a (.inl (.long, n, updV f i.toNatClampNeg (.long x)))))
    | _ => none
  | .bastore => pI st fun x st => pI st fun i st => pR st fun a st => aI h a fun ty n f => match ty with
    | .byte => bI i n (some (nx, lv, st, hput h a (.inl (.byte, n, updV f i.toNatClampNeg (narrow .byte (.int x))))))
    | .boolean => bI i n (some (nx, lv, st, hput h a (.inl (.boolean, n, updV f i.toNatClampNeg (narrow .boolean (.int x))))))
    | _ => none
  | .aastore => pQ st fun x st => pI st fun i st => pR st fun a st => aI h a fun ty n f => match ty with
    | .object C => bI i n (match x with
      | none => some (nx, lv, st, hput h a (.inl (.object C, n, updV f i.toNatClampNeg .null)))
      | some v => oI h v fun cj _ => iff' ((vcl[cj]?).map (fun q => q.1) = some C) (some (nx, lv, st, hput h a (.inl (.object C, n, updV f i.toNatClampNeg (.ref v))))))
    | _ => none
  | .newarray at_ => pI st fun n st => match newT at_ with
    | some ty => iff' (¬ (n < 0 ∨ 1000000 < n.toNatClampNeg)) (some (nx, lv, .ref h.1 :: st, hnew h (.inl (ty, n.toNatClampNeg, fun _ => defaultValue ty)) n.toNatClampNeg))
    | none => none
  | .anewarray _ => nI1 ri fun t => pI st fun n st => match atys[t]? with
    | some (.object C) => iff' (¬ (n < 0 ∨ 1000000 < n.toNatClampNeg)) (some (nx, lv, .ref h.1 :: st, hnew h (.inl (.object C, n.toNatClampNeg, fun _ => .null)) n.toNatClampNeg))
    | _ => none
  | .new _ => nI1 ri fun ci => match vty[ci]? with
    | some ts => some (nx, lv, .ref h.1 :: st, hnew h (.inr (ci, ts.map defaultValue)) ts.length)
    | none => none
  | _ => none
end
section
/-! the step is the machine's -/
def ilen : Instr → Nat
  | .bipush _ | .ldc _ | .iload _ | .lload _ | .aload _ | .istore _ | .lstore _ | .astore _ | .newarray _ => 2
  | .sipush _ | .ldc2_w _ | .iinc .. | .goto _ | .ifCond .. | .if_icmp .. | .ifnull _ | .ifnonnull _ | .if_acmp .. | .getfield _ | .putfield _ | .anewarray _ | .new _ | .invokevirtual _ | .invokestatic _ | .invokespecial _ => 3
  | .multianewarray .. => 4
  | _ => 1
def tgt1 (pc : Nat) (off : Int) (ri : List Nat) : Bool := match ri with
  | t :: _ => decide ((pc : Int) + off = (t : Int))
  | [] => false
/-- an entry of a method's list is what its bytes say, and its links are words of the tables -/
def eok (own : String) (cc : ByteArray) (ini : Bool) (e : EN) : Bool :=
  (match e.2.1 with
    | .tableswitch d _ _ offs => decide (decode cc e.1 = .ok (e.2.1, e.2.2.1 - e.1)) && (match e.2.2.2 with
      | t0 :: ts => decide ((e.1 : Int) + d = (t0 : Int)) && decide (offs.toList.map (fun o => (e.1 : Int) + o) = ts.map (fun t : Nat => (t : Int)))
      | [] => false)
    | _ => decide (decode cc e.1 = .ok (e.2.1, ilen e.2.1)) && decide (e.2.2.1 = e.1 + ilen e.2.1)) &&
  (match e.2.1 with
    | .goto off => tgt1 e.1 off e.2.2.2
    | .ifnull off => tgt1 e.1 off e.2.2.2
    | .ifnonnull off => tgt1 e.1 off e.2.2.2
    | .ifCond _ off => tgt1 e.1 off e.2.2.2
    | .if_icmp _ off => tgt1 e.1 off e.2.2.2
    | .if_acmp _ off => tgt1 e.1 off e.2.2.2
    | .ldc idx => match e.2.2.2 with
      | r :: _ => (KI[r]?).any fun q => decide (q.1 = own) && decide (q.2.1 = idx)
      | [] => false
    | .ldc2_w idx => match e.2.2.2 with
      | r :: _ => (KJ[r]?).any fun q => decide (q.1 = own) && decide (q.2.1 = idx)
      | [] => false
    | .getfield idx => match e.2.2.2 with
      | r :: ci :: k :: _ => (FT[r]?).any fun q => decide (q.1 = own) && decide (q.2.1 = idx) && decide (q.2.2.1 = ci) && decide (q.2.2.2.1 = k)
      | _ => false
    | .putfield idx => match e.2.2.2 with
      | r :: ci :: k :: _ => (FT[r]?).any fun q => decide (q.1 = own) && decide (q.2.1 = idx) && decide (q.2.2.1 = ci) && decide (q.2.2.2.1 = k) && (vcl[ci]?).any fun v => !(v.2.1 k).2.2.2 || (ini && !q.2.2.2.2.1 && decide (v.1 = own))
      | _ => false
    | .new idx => match e.2.2.2 with
      | ci :: wi :: _ => (vcl[ci]?).any fun v => decide (lw_tbl[wi]? = some (.classLink own idx v.1))
      | _ => false
    | .anewarray idx => match e.2.2.2 with
      | t :: wi :: wj :: _ => match atys[t]? with
        | some (.object C) => decide (lw_tbl[wi]? = some (.classLink own idx C)) && decide (lw_tbl[wj]? = some (.arrayOver (.object C)))
        | _ => false
      | _ => false
    | _ => true)
section Snd
variable {D : va_G} {dA : FieldType → ClassId} {base b L : Nat} {xs : Nat → Int32} {n0 s0 nL : Nat} {own : String} {cc : ByteArray}
variable {p : Program} {l : Launch} {e : Env} {R : Room} {s : State} {m : MethodId} {args : Array Value} {below : List Frame} {meth : Method} {c : Code} {Q : State → Prop}
/-- what a method's body stands on -/
def Cx (D : va_G) (dA : FieldType → ClassId) (base b L : Nat) (xs : Nat → Int32) (own : String) (cc : ByteArray) (nL : Nat) (p : Program) (s : State) (m : MethodId) (meth : Method) (c : Code) : Prop :=
  p.tables.exec = Jvm.exec ∧ c.code = cc ∧ c.maxLocals = nL ∧ s.vm.findClass own = some m.cls ∧ Wd D dA s ∧ Hw base b L xs s s.heap ∧ meth.locks = false
/-- the machine goes on from an abstract frame -/
def KK (D : va_G) (dA : FieldType → ClassId) (base n0 s0 nL : Nat) (p : Program) (l : Launch) (e : Env) (R : Room) (s : State) (m : MethodId) (args : Array Value) (below : List Frame) (meth : Method) (c : Code) (Q : State → Prop) (pc : Nat) (lv : List (Option Value)) (st : List Value) (h : AH) : Prop :=
  ∀ (H : Heap) (locs : List Loc) (cells slots : Nat) (ls : Array Slot), Rp D dA base h H → va_S (fun q => base ≤ q) s.heap H locs → LV ls nL lv → cells + n0 = h.1 → slots + s0 = h.2.1 → W p l e R s m args below meth c H locs cells slots Q (F0 m pc ls st)
theorem tgt1_inv {pc : Nat} {off : Int} {ri : List Nat} (h : tgt1 pc off ri = true) : ∃ t r, ri = t :: r ∧ (pc : Int) + off = (t : Int) := by
  match ri, h with
  | t :: r, h => exact ⟨t, r, rfl, of_decide_eq_true h⟩
theorem nI1_cons {t : Nat} {r : List Nat} {f : Nat → Option SR} : nI1 (t :: r) f = f t := rfl
/-- a word of the tables by its place -/
theorem Wd.at {D : va_G} {dA : FieldType → ClassId} {s : State} (h : Wd D dA s) {w : Cond} {i : Nat} (hw : lw_tbl[i]? = some w) (hk : wk w = true) {A : Array Value} : w.before A s = true := h.word (List.mem_of_getElem? hw) hk
theorem W.ofsteps {H : Heap} {locs : List Loc} {cells slots : Nat} {g g2 : JFrame} (h : ∀ T : State, T.heap = H → Stand p l e R s m args below meth c T locs cells slots → ∀ t, Steps p.tables e below (T.setTop g2) t → Steps p.tables e below (T.setTop g) t) (k : W p l e R s m args below meth c H locs cells slots Q g2) : W p l e R s m args below meth c H locs cells slots Q g := by
  intro T hT X
  obtain ⟨t, a1, b1⟩ := k T hT X
  exact ⟨t, h T hT X t a1, b1⟩
/-- storing a local by a row that only needs the store's success -/
theorem wx_store1 {H : Heap} {locs : List Loc} {cells slots : Nat} {lv : List (Option Value)} {ls : Array Slot} {i pc pc' : Nat} {v : Value} {st st' : List Value} (hL : LV ls nL lv) (hi : i < nL) (hv : v.category = 1)
    (row : ∀ ls' : Array Slot, storeLocals ls i v = some ls' → W p l e R s m args below meth c H locs cells slots Q (F0 m pc' ls' st') → W p l e R s m args below meth c H locs cells slots Q (F0 m pc ls st))
    (k : ∀ ls', LV ls' nL (lv1 lv i v) → W p l e R s m args below meth c H locs cells slots Q (F0 m pc' ls' st')) : W p l e R s m args below meth c H locs cells slots Q (F0 m pc ls st) := by
  obtain ⟨ls', e', h'⟩ := hL.set1 hi hv
  exact row ls' e' (k ls' h')
theorem wx_store2 {H : Heap} {locs : List Loc} {cells slots : Nat} {lv : List (Option Value)} {ls : Array Slot} {i pc pc' : Nat} {v : Value} {st st' : List Value} (hL : LV ls nL lv) (hi : i + 1 < nL) (hv : v.category = 2)
    (row : ∀ ls' : Array Slot, storeLocals ls i v = some ls' → W p l e R s m args below meth c H locs cells slots Q (F0 m pc' ls' st') → W p l e R s m args below meth c H locs cells slots Q (F0 m pc ls st))
    (k : ∀ ls', LV ls' nL (lv2 lv i v) → W p l e R s m args below meth c H locs cells slots Q (F0 m pc' ls' st')) : W p l e R s m args below meth c H locs cells slots Q (F0 m pc ls st) := by
  obtain ⟨ls', e', h'⟩ := hL.set2 hi hv
  exact row ls' e' (k ls' h')
theorem rw_istore_n (hexec : p.tables.exec = Jvm.exec) (hb : c.code = cc) {H : Heap} {locs : List Loc} {cells slots pc : Nat} {ls ls' : Array Slot} {k : Fin 4} {x : Int32} {rest : List Value} (hdg : decode cc pc = .ok (.istore_n k, 1)) (e' : storeLocals ls k (.int x) = some ls') (kk : W p l e R s m args below meth c H locs cells slots Q (F0 m (pc + 1) ls' rest)) : W p l e R s m args below meth c H locs cells slots Q (F0 m pc ls (.int x :: rest)) := by
  intro T hT X
  obtain ⟨t, a, b⟩ := kk T hT X
  refine ⟨t, ?_, b⟩
  jvm_step X.here [X.here.top, ↓top_set X.here.top, hexec, hb, hdg, e']
  exact a
theorem rw_istore (hexec : p.tables.exec = Jvm.exec) (hb : c.code = cc) {H : Heap} {locs : List Loc} {cells slots pc : Nat} {ls ls' : Array Slot} {k : Nat} {x : Int32} {rest : List Value} (hdg : decode cc pc = .ok (.istore k, 2)) (e' : storeLocals ls k (.int x) = some ls') (kk : W p l e R s m args below meth c H locs cells slots Q (F0 m (pc + 2) ls' rest)) : W p l e R s m args below meth c H locs cells slots Q (F0 m pc ls (.int x :: rest)) := by
  intro T hT X
  obtain ⟨t, a, b⟩ := kk T hT X
  refine ⟨t, ?_, b⟩
  jvm_step X.here [X.here.top, ↓top_set X.here.top, hexec, hb, hdg, e']
  exact a
theorem rw_lstore_n (hexec : p.tables.exec = Jvm.exec) (hb : c.code = cc) {H : Heap} {locs : List Loc} {cells slots pc : Nat} {ls ls' : Array Slot} {k : Fin 4} {x : Int64} {rest : List Value} (hdg : decode cc pc = .ok (.lstore_n k, 1)) (e' : storeLocals ls k (.long x) = some ls') (kk : W p l e R s m args below meth c H locs cells slots Q (F0 m (pc + 1) ls' rest)) : W p l e R s m args below meth c H locs cells slots Q (F0 m pc ls (.long x :: rest)) := by
  intro T hT X
  obtain ⟨t, a, b⟩ := kk T hT X
  refine ⟨t, ?_, b⟩
  jvm_step X.here [X.here.top, ↓top_set X.here.top, hexec, hb, hdg, e']
  exact a
theorem rw_lstore (hexec : p.tables.exec = Jvm.exec) (hb : c.code = cc) {H : Heap} {locs : List Loc} {cells slots pc : Nat} {ls ls' : Array Slot} {k : Nat} {x : Int64} {rest : List Value} (hdg : decode cc pc = .ok (.lstore k, 2)) (e' : storeLocals ls k (.long x) = some ls') (kk : W p l e R s m args below meth c H locs cells slots Q (F0 m (pc + 2) ls' rest)) : W p l e R s m args below meth c H locs cells slots Q (F0 m pc ls (.long x :: rest)) := by
  intro T hT X
  obtain ⟨t, a, b⟩ := kk T hT X
  refine ⟨t, ?_, b⟩
  jvm_step X.here [X.here.top, ↓top_set X.here.top, hexec, hb, hdg, e']
  exact a
theorem rw_astore_n (hexec : p.tables.exec = Jvm.exec) (hb : c.code = cc) {H : Heap} {locs : List Loc} {cells slots pc : Nat} {ls ls' : Array Slot} {k : Fin 4} {x : Option Nat} {rest : List Value} (hdg : decode cc pc = .ok (.astore_n k, 1)) (e' : storeLocals ls k (va_rf x) = some ls') (kk : W p l e R s m args below meth c H locs cells slots Q (F0 m (pc + 1) ls' rest)) : W p l e R s m args below meth c H locs cells slots Q (F0 m pc ls (va_rf x :: rest)) := by
  intro T hT X
  obtain ⟨t, a, b⟩ := kk T hT X
  refine ⟨t, ?_, b⟩
  cases x
  · have e' : storeLocals ls k .null = some ls' := e'
    jvm_step X.here [X.here.top, ↓top_set X.here.top, hexec, hb, hdg, va_rf, e']
    exact ⟨rfl, a⟩
  · rename_i q
    have e' : storeLocals ls k (.ref q) = some ls' := e'
    jvm_step X.here [X.here.top, ↓top_set X.here.top, hexec, hb, hdg, va_rf, e']
    exact ⟨rfl, a⟩
theorem rw_astore (hexec : p.tables.exec = Jvm.exec) (hb : c.code = cc) {H : Heap} {locs : List Loc} {cells slots pc : Nat} {ls ls' : Array Slot} {k : Nat} {x : Option Nat} {rest : List Value} (hdg : decode cc pc = .ok (.astore k, 2)) (e' : storeLocals ls k (va_rf x) = some ls') (kk : W p l e R s m args below meth c H locs cells slots Q (F0 m (pc + 2) ls' rest)) : W p l e R s m args below meth c H locs cells slots Q (F0 m pc ls (va_rf x :: rest)) := by
  intro T hT X
  obtain ⟨t, a, b⟩ := kk T hT X
  refine ⟨t, ?_, b⟩
  cases x
  · have e' : storeLocals ls k .null = some ls' := e'
    jvm_step X.here [X.here.top, ↓top_set X.here.top, hexec, hb, hdg, va_rf, e']
    exact ⟨rfl, a⟩
  · rename_i q
    have e' : storeLocals ls k (.ref q) = some ls' := e'
    jvm_step X.here [X.here.top, ↓top_set X.here.top, hexec, hb, hdg, va_rf, e']
    exact ⟨rfl, a⟩
theorem rw_iinc (hexec : p.tables.exec = Jvm.exec) (hb : c.code = cc) {H : Heap} {locs : List Loc} {cells slots pc : Nat} {ls ls' : Array Slot} {k : Nat} {n : Int} {x : Int32} {rest : List Value} (hdg : decode cc pc = .ok (.iinc k n, 3)) (hg : ls[k]? = some (.val (.int x))) (e' : storeLocals ls k (.int (x + Int32.ofInt n)) = some ls') (kk : W p l e R s m args below meth c H locs cells slots Q (F0 m (pc + 3) ls' rest)) : W p l e R s m args below meth c H locs cells slots Q (F0 m pc ls rest) := by
  intro T hT X
  obtain ⟨t, a, b⟩ := kk T hT X
  refine ⟨t, ?_, b⟩
  jvm_step X.here [X.here.top, ↓top_set X.here.top, hexec, hb, hdg, hg, e']
  exact a
theorem rw_aload_n (hexec : p.tables.exec = Jvm.exec) (hb : c.code = cc) {H : Heap} {locs : List Loc} {cells slots pc : Nat} {ls : Array Slot} {k : Fin 4} {x : Option Nat} {rest : List Value} (hdg : decode cc pc = .ok (.aload_n k, 1)) (hg : ls[(k : Nat)]? = some (.val (va_rf x))) (kk : W p l e R s m args below meth c H locs cells slots Q (F0 m (pc + 1) ls (va_rf x :: rest))) : W p l e R s m args below meth c H locs cells slots Q (F0 m pc ls rest) := by
  cases x
  · exact lv_aload_nN hexec hb hdg rfl hg kk
  · exact lv_aload_n hexec hb hdg rfl hg kk
theorem rw_aload (hexec : p.tables.exec = Jvm.exec) (hb : c.code = cc) {H : Heap} {locs : List Loc} {cells slots pc : Nat} {ls : Array Slot} {k : Nat} {x : Option Nat} {rest : List Value} (hdg : decode cc pc = .ok (.aload k, 2)) (hg : ls[k]? = some (.val (va_rf x))) (kk : W p l e R s m args below meth c H locs cells slots Q (F0 m (pc + 2) ls (va_rf x :: rest))) : W p l e R s m args below meth c H locs cells slots Q (F0 m pc ls rest) := by
  cases x
  · exact lv_aloadN hexec hb hdg hg kk
  · exact lv_aload hexec hb hdg hg kk
end Snd
end
section
/-! rows on the heap -/
section SndH
variable {D : va_G} {dA : FieldType → ClassId} {base b L : Nat} {xs : Nat → Int32} {n0 s0 nL : Nat} {own : String} {cc : ByteArray}
variable {p : Program} {l : Launch} {e : Env} {R : Room} {s : State} {m : MethodId} {args : Array Value} {below : List Frame} {meth : Method} {c : Code} {Q : State → Prop}
variable {H : Heap} {locs : List Loc} {cells slots pc : Nat} {ls : Array Slot} {rest : List Value} {h : AH}
theorem goodLay {C : String} {T : u_T} {N : Nat} {w : Cond} (h : w ∈ u_ws C T N) : wk w = true := by
  obtain ⟨k, -, rfl⟩ := List.mem_map.mp h
  unfold u_lay
  split <;> rfl
theorem lays_ws (hW : Wd D dA s) {q : vw_C} (hq : q ∈ vcl) : ∀ w ∈ u_ws q.1 q.2.1 q.2.2, w.before args s = true := fun w hw => hW.word (vcl_in q hq w hw) (goodLay hw)
theorem rw_get (hexec : p.tables.exec = Jvm.exec) (hb : c.code = cc) (hW : Wd D dA s) (hown : s.vm.findClass own = some m.cls) {a r ci k idx wi : Nat} {nest : Bool} {fs : List Value} {v : Value} (ho : oat D dA a (.inr (ci, fs)) H) (hr : FT[r]? = some (own, idx, ci, k, nest, wi)) (hv : fs[k]? = some v) (hdg : decode cc pc = .ok (.getfield idx, 3))
    (kk : W p l e R s m args below meth c H locs cells slots Q (F0 m (pc + 3) ls (v :: rest))) : W p l e R s m args below meth c H locs cells slots Q (F0 m pc ls (.ref a :: rest)) := by
  obtain ⟨q, h1, h2, cell, q1, q2, q3, q4⟩ := ho
  have hft := List.all_eq_true.mp FT_ok _ (List.mem_of_getElem? hr)
  simp only [ftok, h1, Bool.and_eq_true, decide_eq_true_eq] at hft
  obtain ⟨hk, hw⟩ := hft
  have hq : q ∈ vcl := List.mem_of_getElem? h1
  obtain ⟨hS, hfc, kC, hkC, hkind⟩ := hW.2.1.1 ci q h1
  obtain ⟨cf, kf, fi, f, hi, hsl⟩ := hS k hk
  have hst := (u_facts (args := args) hfc hkC (u_lays (lays_ws hW hq) (fun _ h => h) hk) hi).1
  have hi2 : s.fieldFound? q.1 (q.2.1 k).2.1 (q.2.1 k).2.2.1 = some (cf, kf, fi, f) := by rw [← vcl_own q hq k hk]; exact hi
  have hslot : cell.slots[f.slot]? = some v := by rw [hsl, q4 k hk]; simp [vp_V, hv]
  cases nest with
  | false => exact W.getf hexec hb hown (hW.at hw rfl) hi2 hst q1 (by rw [q3]; exact fun h => by cases h) hslot rfl rfl hdg kk
  | true => exact va_Wgetf hexec hb hown (hW.at hw rfl) hi2 hst q1 (by rw [q3]; exact fun h => by cases h) hslot rfl rfl hdg kk
theorem fitv_ok {ty : FieldType} {v : Value} (h : fitv ty v = true) : narrow ty v = v ∧ fits ty v = true := by
  unfold fitv at h
  split at h
  · exact ⟨rfl, rfl⟩
  · rename_i x
    simp only [Bool.or_eq_true, beq_iff_eq] at h
    rcases h with rfl | rfl <;> exact ⟨by decide, by decide⟩
  · exact ⟨rfl, rfl⟩
  · exact ⟨rfl, rfl⟩
  · exact ⟨rfl, rfl⟩
  · exact ⟨rfl, rfl⟩
  · cases h
theorem vty_at {ci k : Nat} {q : vw_C} {ty : FieldType} (h1 : vcl[ci]? = some q) (hk : k < q.2.2) (ht : (vty.getD ci [])[k]? = some ty) : ty = fty q.2.1 k := by
  have hci : ci < 8 := (List.getElem?_eq_some_iff.mp h1).1
  obtain ⟨q', ts, e1, e2, e3, e4⟩ := vty_ok ci hci
  cases h1.symm.trans e1
  rw [List.getD_eq_getElem?_getD, e2] at ht
  exact Option.some.inj (ht.symm.trans (e4 k hk))
theorem rw_put (hexec : p.tables.exec = Jvm.exec) (hb : c.code = cc) (hW : Wd D dA s) (hown : s.vm.findClass own = some m.cls) {a r ci k idx wi : Nat} {nest ini : Bool} {fs : List Value} {v : Value} {ty : FieldType} (hR : Rp D dA base h H) (hS0 : va_S (fun q => base ≤ q) s.heap H locs) (ha : h.2.2 a = some (.inr (ci, fs))) (hr : FT[r]? = some (own, idx, ci, k, nest, wi))
    (hfin : (vcl[ci]?).any (fun v => !(v.2.1 k).2.2.2 || (ini && !nest && decide (v.1 = own))) = true) (hini : ini = true → meth.name = "<init>") (hty : (vty.getD ci [])[k]? = some ty) (hv : fitv ty v = true) (hdg : decode cc pc = .ok (.putfield idx, 3))
    (kk : ∀ (H1 : Heap) (locs1 : List Loc), Rp D dA base (hput h a (.inr (ci, fs.set k v))) H1 → va_S (fun q => base ≤ q) s.heap H1 locs1 → W p l e R s m args below meth c H1 locs1 cells slots Q (F0 m (pc + 3) ls rest)) : W p l e R s m args below meth c H locs cells slots Q (F0 m pc ls (v :: .ref a :: rest)) := by
  obtain ⟨hba, q, h1, h2, cell, q1, q2, q3, q4⟩ := hR.2.2 a _ ha
  have hft := List.all_eq_true.mp FT_ok _ (List.mem_of_getElem? hr)
  simp only [ftok, h1, Bool.and_eq_true, decide_eq_true_eq] at hft
  obtain ⟨hk, hw⟩ := hft
  have hq : q ∈ vcl := List.mem_of_getElem? h1
  have hKn := hW.2.1.1 ci q h1
  obtain ⟨hS, hfc, kC, hkC, hkind⟩ := hKn
  obtain ⟨cf, kf, fi, f, hi, hsl⟩ := hS k hk
  have hws := lays_ws (args := args) hW hq
  have hst := (u_facts (args := args) hfc hkC (u_lays hws (fun _ h => h) hk) hi).1
  have hi2 : s.fieldFound? q.1 (q.2.1 k).2.1 (q.2.1 k).2.2.1 = some (cf, kf, fi, f) := by rw [← vcl_own q hq k hk]; exact hi
  have hap := va_apart (own := own) hws (fun _ h => h) (fty q.2.1) (vcl_ty q hq) (vcl_nm q hq) hW.2.1 h1
  obtain ⟨hn, hfit⟩ := fitv_ok hv
  rw [vty_at h1 hk hty] at hn hfit
  have hd := vcl_ty q hq k hk
  have hlay := hws _ (u_in_lay hk)
  rw [h1] at hfin
  simp only [Option.any_some, Bool.or_eq_true, Bool.and_eq_true, Bool.not_eq_true', decide_eq_true_eq] at hfin
  have go : ∀ H' : Heap, H'[a]? = some (cell.setSlot f.slot v) → H'.size = H.size → (∀ q, q ≠ a → H'[q]? = H[q]?) → W p l e R s m args below meth c H' (locs ++ [⟨a, f.slot⟩]) cells slots Q (F0 m (pc + 3) ls rest) := by
    intro H' e1 e2 e3
    rw [hsl] at e1
    refine kk H' _ (hR.put hba ⟨q, h1, by rw [List.length_set]; exact h2, t_OB.to (V := updV (vp_V fs) k v) ⟨_, e1, q2, q3, t_set q4 hap hk v⟩ (fun j _ => vp_updV_set (by rw [h2]; exact hk) v j)⟩ e2 e3) (hS0.put e2 e3 hba)
  have hlt : f.slot < cell.slots.size := by rw [hsl]; exact k2_hasslot (q4 k hk)
  by_cases hf : (q.2.1 k).2.2.2 = true
  · obtain ⟨⟨g1, g2⟩, g3⟩ := hfin.resolve_left (by rw [hf]; decide)
    subst g2
    unfold u_lay at hlay
    rw [if_pos hf] at hlay
    have hcf : m.cls = cf := by
      obtain ⟨_, _, c', _, _, _, -, -, hf', -, -, -, hown2, -⟩ := Cond.laysFinal_spec hlay
      have e1 : c' = cf := by have := hi.symm.trans hf'; simp at this; exact this.1.symm
      rw [vcl_own q hq k hk, g3] at hown2
      rw [← e1]; exact Option.some.inj (hown.symm.trans hown2)
    have h6 := u_fits hfc hkC hkind (Or.inr hlay) hi hd hn hfit
    exact W.putFinK hexec hb hown (hW.at hw rfl) hi2 hst hcf (hini g1) (by rw [q2]; exact h6) q1 q3 hlt rfl rfl hdg go
  · have hf : (q.2.1 k).2.2.2 = false := by cases hz : (q.2.1 k).2.2.2 <;> simp_all
    unfold u_lay at hlay
    rw [if_neg (by rw [hf]; decide)] at hlay
    have h6 := u_store hfc hkC hkind hlay hi hd hn hfit
    cases nest with
    | false => exact W.putK hexec hb (f := f) ⟨hown, hW.at hw rfl, ⟨_, _, _, hi2⟩, hst⟩ (by rw [q2]; exact h6) q1 q3 hlt rfl rfl hdg go
    | true => exact va_WputK hexec hb (f := f) hown (hW.at hw rfl) hi2 hst (by rw [q2]; exact h6) q1 q3 hlt rfl rfl hdg go
theorem rw_new (hexec : p.tables.exec = Jvm.exec) (hb : c.code = cc) (hW : Wd D dA s) (hown : s.vm.findClass own = some m.cls) {ci idx wi : Nat} {q : vw_C} {ts : List FieldType} (hR : Rp D dA base h H) (hS0 : va_S (fun q => base ≤ q) s.heap H locs) (h1 : vcl[ci]? = some q) (hts : vty[ci]? = some ts) (hw : lw_tbl[wi]? = some (.classLink own idx q.1))
    (hcells : cells + 1 ≤ R.cells) (hslots : slots + ts.length ≤ R.slots) (hdg : decode cc pc = .ok (.new idx, 3))
    (kk : ∀ H1 : Heap, Rp D dA base (hnew h (.inr (ci, ts.map defaultValue)) ts.length) H1 → va_S (fun q => base ≤ q) s.heap H1 locs → W p l e R s m args below meth c H1 locs (cells + 1) (slots + ts.length) Q (F0 m (pc + 3) ls (.ref h.1 :: rest))) : W p l e R s m args below meth c H locs cells slots Q (F0 m pc ls rest) := by
  have hq : q ∈ vcl := List.mem_of_getElem? h1
  have hci : ci < 8 := (List.getElem?_eq_some_iff.mp h1).1
  obtain ⟨q', ts', e1, e2, e3, e4⟩ := vty_ok ci hci
  cases h1.symm.trans e1
  cases hts.symm.trans e2
  have hKn := hW.2.1.1 ci q h1
  obtain ⟨i1, i2⟩ := vcl_inst q hq
  rw [e3] at hslots kk
  refine W.newcK hexec hb hown (hW.at hw rfl) (hW.word i1 rfl) (hW.word i2 rfl) rfl hdg hcells hslots hKn.2.1 hR.1 fun H1 kC hkC b1 z1 o1 => ?_
  have ho : oat D dA h.1 (.inr (ci, ts.map defaultValue)) H1 := by
    refine ⟨q, h1, by rw [List.length_map]; exact e3, (u_born (args := args) (fty q.2.1) (lays_ws hW hq) (fun _ h => h) hKn hkC b1 (vcl_ty q hq)).to fun j hj => ?_⟩
    simp [vp_V, e4 j hj]
  exact kk H1 (hR.new ho z1 o1) ⟨Nat.le_trans hS0.1 (by rw [z1, hR.1]; omega), fun x g1 g2 => (o1 x (by rw [← hR.1]; exact Nat.lt_of_lt_of_le g1 hS0.1)).trans (hS0.2.1 x g1 g2), hS0.2.2⟩
theorem newT_ok {at_ : ArrayType} {ty : FieldType} (h : newT at_ = some ty) : newarray.typeOf at_ = ty ∧ Cond.arrayClass ty ∈ lw_tbl ∧ ty ∈ atys ∧ componentBytes ty ≤ 8 ∧ "[" ++ (newarray.typeOf at_).toString = "[" ++ ty.toString ∧ (∀ (U : State) (cA : ClassId), va_RA U cA ty → U.vm.findClass ("[" ++ ty.toString) = some cA) := by
  have w1 : Cond.arrayClass .int ∈ lw_tbl := by decide +kernel
  have w2 : Cond.arrayClass .long ∈ lw_tbl := by decide +kernel
  have w3 : Cond.arrayClass .byte ∈ lw_tbl := by decide +kernel
  have w4 : Cond.arrayClass .boolean ∈ lw_tbl := by decide +kernel
  cases at_ <;> cases h
  all_goals exact ⟨rfl, by assumption, by decide, by decide, rfl, fun U cA h => h⟩
theorem rw_newa (hexec : p.tables.exec = Jvm.exec) (hb : c.code = cc) (hW : Wd D dA s) {at_ : ArrayType} {ty : FieldType} {n : Int32} (hR : Rp D dA base h H) (hS0 : va_S (fun q => base ≤ q) s.heap H locs) (hty : newT at_ = some ty) (hn : ¬ (n < 0 ∨ 1000000 < n.toNatClampNeg))
    (hcells : cells + 1 ≤ R.cells) (hslots : slots + n.toNatClampNeg ≤ R.slots) (hdg : decode cc pc = .ok (.newarray at_, 2))
    (kk : ∀ H1 : Heap, Rp D dA base (hnew h (.inl (ty, n.toNatClampNeg, fun _ => defaultValue ty)) n.toNatClampNeg) H1 → va_S (fun q => base ≤ q) s.heap H1 locs → W p l e R s m args below meth c H1 locs (cells + 1) (slots + n.toNatClampNeg) Q (F0 m (pc + 2) ls (.ref h.1 :: rest))) : W p l e R s m args below meth c H locs cells slots Q (F0 m pc ls (.int n :: rest)) := by
  obtain ⟨t1, t2, t3, t4, t5, t6⟩ := newT_ok hty
  subst t1
  refine va_newaK hexec hb (hW.word t2 rfl) rfl hdg rfl (fun q => hn (Or.inl q)) rfl ?_ hcells hslots hR.1 fun H1 cA b1 z1 o1 hAr hNm => ?_
  · have : n.toNatClampNeg ≤ 1000000 := Nat.not_lt.mp fun q => hn (Or.inr q)
    exact Nat.le_trans (Nat.mul_le_mul this t4) (by decide)
  · have hc : cA = dA (newarray.typeOf at_) := Option.some.inj (hNm.symm.trans (t6 s _ (hW.2.2.1 _ t3).2))
    subst hc
    exact kk H1 (hR.new ⟨t3, b1⟩ z1 o1) ⟨Nat.le_trans hS0.1 (by rw [z1, hR.1]; omega), fun x g1 g2 => (o1 x (by rw [← hR.1]; exact Nat.lt_of_lt_of_le g1 hS0.1)).trans (hS0.2.1 x g1 g2), hS0.2.2⟩
theorem rw_anew (hexec : p.tables.exec = Jvm.exec) (hb : c.code = cc) (hW : Wd D dA s) (hown : s.vm.findClass own = some m.cls) {C : String} {n : Int32} {idx wi wj : Nat} (hR : Rp D dA base h H) (hS0 : va_S (fun q => base ≤ q) s.heap H locs) (hty : FieldType.object C ∈ atys) (hw : lw_tbl[wi]? = some (.classLink own idx C)) (hw2 : lw_tbl[wj]? = some (.arrayOver (.object C))) (hn : ¬ (n < 0 ∨ 1000000 < n.toNatClampNeg))
    (hcells : cells + 1 ≤ R.cells) (hslots : slots + n.toNatClampNeg ≤ R.slots) (hdg : decode cc pc = .ok (.anewarray idx, 3))
    (kk : ∀ H1 : Heap, Rp D dA base (hnew h (.inl (.object C, n.toNatClampNeg, fun _ => .null)) n.toNatClampNeg) H1 → va_S (fun q => base ≤ q) s.heap H1 locs → W p l e R s m args below meth c H1 locs (cells + 1) (slots + n.toNatClampNeg) Q (F0 m (pc + 3) ls (.ref h.1 :: rest))) : W p l e R s m args below meth c H locs cells slots Q (F0 m pc ls (.int n :: rest)) := by
  refine W.anew hexec hb hown (hW.at hw rfl) (hW.at hw2 rfl) rfl hdg rfl (fun q => hn (Or.inl q)) ?_ hcells hslots fun cA kA comp f1 f2 f3 f4 => ?_
  · have : n.toNatClampNeg ≤ 1000000 := Nat.not_lt.mp fun q => hn (Or.inr q)
    omega
  · obtain ⟨kA', comp', k1, k2, k3, k4⟩ := (hW.2.2.1 _ hty).2
    cases Option.some.inj (f1.symm.trans k4)
    generalize hH1 : H.push ({ cls := dA (.object C), slots := Array.replicate n.toNatClampNeg .null, vm := .none } : Cell) = H1
    have z1 : H1.size = h.1 + 1 := by rw [← hH1, Array.size_push, hR.1]
    have e1 : H1[h.1]? = some (arrV (dA (.object C)) n.toNatClampNeg (fun _ => .null)) := by rw [← hH1, ← hR.1, Array.getElem?_push_size, ← arrV_new]
    have o1 : ∀ q : Nat, q < h.1 → H1[q]? = H[q]? := fun q hq => by rw [← hH1, Array.getElem?_push, if_neg (by rw [hR.1]; exact Nat.ne_of_lt hq)]
    rw [show H.size = h.1 from hR.1]
    exact kk H1 (hR.new ⟨hty, e1⟩ z1 o1) ⟨Nat.le_trans hS0.1 (by rw [z1, hR.1]; omega), fun x g1 g2 => (o1 x (by rw [← hR.1]; exact Nat.lt_of_lt_of_le g1 hS0.1)).trans (hS0.2.1 x g1 g2), hS0.2.2⟩
theorem arr_in {cA : ClassId} {n : Nat} {f : Nat → Value} {i : Int32} (hi : vp_in i n) : ¬ (i < 0 ∨ (arrV cA n f).slots.size ≤ i.toNatClampNeg) := by rw [arrV_size]; exact hi
theorem arr_rd {cA : ClassId} {n : Nat} {f : Nat → Value} {i : Int32} (hi : vp_in i n) : (arrV cA n f).slots[i.toNatClampNeg]? = some (f i.toNatClampNeg) := arrV_read _ _ (Nat.not_le.mp fun q => hi (Or.inr q))
theorem arr_nu {cA : ClassId} {n : Nat} {f : Nat → Value} : (arrV cA n f).vm ≠ .unknown := fun q => by cases q
/-- a stored element -/
theorem Rp.ast (hR : Rp D dA base h H) {a n : Nat} {ty : FieldType} {f : Nat → Value} {i : Nat} {v : Value} {H1 : Heap} (ha : h.2.2 a = some (.inl (ty, n, f))) (e1 : H1[a]? = some ((arrV (dA ty) n f).setSlot i v)) (z : H1.size = H.size) (oq : ∀ q, q ≠ a → H1[q]? = H[q]?) : Rp D dA base (hput h a (.inl (ty, n, updV f i v))) H1 := by
  obtain ⟨hb, ht, hc⟩ := hR.2.2 a _ ha
  exact hR.put hb ⟨ht, by rw [e1, arrV_store]⟩ z oq
end SndH
end
section
/-! the step keeps sizes, and is the machine's -/
section SndS
variable {D : va_G} {dA : FieldType → ClassId} {base b L : Nat} {xs : Nat → Int32} {n0 s0 nL : Nat} {own : String} {cc : ByteArray}
variable {p : Program} {l : Launch} {e : Env} {R : Room} {s : State} {m : MethodId} {args : Array Value} {below : List Frame} {meth : Method} {c : Code} {Q : State → Prop}
set_option maxHeartbeats 4000000 in
set_option maxRecDepth 10000 in
theorem stp_ok {ini : Bool} (cx : Cx D dA base b L xs own cc nL p s m meth c) (hini : ini = true → meth.name = "<init>") {pc nx : Nat} {ins : Instr} {ri : List Nat} (he : eok own cc ini (pc, ins, nx, ri) = true) {lv : List (Option Value)} {st : List Value} {h : AH} {pc' : Nat} {lv' : List (Option Value)} {st' : List Value} {h1 : AH}
    (hs : stp b L xs nL ins nx ri lv st h = some (pc', lv', st', h1)) (hroom : h1.1 ≤ n0 + R.cells ∧ h1.2.1 ≤ s0 + R.slots)
    (k : KK D dA base n0 s0 nL p l e R s m args below meth c Q pc' lv' st' h1) : KK D dA base n0 s0 nL p l e R s m args below meth c Q pc lv st h := by
  obtain ⟨hx, hb, hml, hown, hW, hH, hlocks⟩ := cx
  simp only [eok, Bool.and_eq_true] at he
  obtain ⟨he1, he2⟩ := he
  intro H locs cells slots ls hR hS hL hc hl
  have hb0 : ¬ (fun q => base ≤ q) b := Nat.not_le.mpr hH.2.2.2.1
  have hbl : b < s.heap.size := Nat.lt_of_lt_of_le hH.2.2.2.1 hH.2.2.2.2
  cases ins with
  | iconst n =>
    simp only [Bool.and_eq_true, decide_eq_true_eq] at he1
    simp only [ilen] at he1
    obtain ⟨hdg, rfl⟩ := he1
    cases hs
    exact lv_iconst hx hb hdg rfl (k H locs cells slots ls hR hS hL hc hl)
  | bipush n =>
    simp only [Bool.and_eq_true, decide_eq_true_eq] at he1
    simp only [ilen] at he1
    obtain ⟨hdg, rfl⟩ := he1
    cases hs
    exact lv_bipush hx hb hdg rfl (k H locs cells slots ls hR hS hL hc hl)
  | sipush n =>
    simp only [Bool.and_eq_true, decide_eq_true_eq] at he1
    simp only [ilen] at he1
    obtain ⟨hdg, rfl⟩ := he1
    cases hs
    exact lv_sipush hx hb hdg rfl (k H locs cells slots ls hR hS hL hc hl)
  | lconst n =>
    simp only [Bool.and_eq_true, decide_eq_true_eq] at he1
    simp only [ilen] at he1
    obtain ⟨hdg, rfl⟩ := he1
    cases hs
    exact lv_lconst hx hb hdg rfl (k H locs cells slots ls hR hS hL hc hl)
  | aconst_null =>
    simp only [Bool.and_eq_true, decide_eq_true_eq] at he1
    simp only [ilen] at he1
    obtain ⟨hdg, rfl⟩ := he1
    cases hs
    exact lv_null hx hb hdg (k H locs cells slots ls hR hS hL hc hl)
  | ldc idx =>
    simp only [Bool.and_eq_true, decide_eq_true_eq] at he1
    simp only [ilen] at he1
    obtain ⟨hdg, rfl⟩ := he1
    obtain ⟨r, r9, rfl⟩ : ∃ r r9, ri = r :: r9 := by
      rcases ri with _ | ⟨r, r9⟩
      · cases he2
      · exact ⟨r, r9, rfl⟩
    dsimp only at he2
    simp only [stp, nI1_cons] at hs
    cases hq : KI[r]? with
    | none => rw [hq] at hs; cases hs
    | some q =>
      rw [hq] at hs he2
      simp only [Option.any_some, Bool.and_eq_true, decide_eq_true_eq] at he2
      cases hs
      have hw := KI_ok q (List.mem_of_getElem? hq)
      rw [he2.1, he2.2] at hw
      exact lv_ldc hx hb hown (hW.at hw rfl) hdg (k H locs cells slots ls hR hS hL hc hl)
  | ldc2_w idx =>
    simp only [Bool.and_eq_true, decide_eq_true_eq] at he1
    simp only [ilen] at he1
    obtain ⟨hdg, rfl⟩ := he1
    obtain ⟨r, r9, rfl⟩ : ∃ r r9, ri = r :: r9 := by
      rcases ri with _ | ⟨r, r9⟩
      · cases he2
      · exact ⟨r, r9, rfl⟩
    dsimp only at he2
    simp only [stp, nI1_cons] at hs
    cases hq : KJ[r]? with
    | none => rw [hq] at hs; cases hs
    | some q =>
      rw [hq] at hs he2
      simp only [Option.any_some, Bool.and_eq_true, decide_eq_true_eq] at he2
      cases hs
      have hw := KJ_ok q (List.mem_of_getElem? hq)
      rw [he2.1, he2.2] at hw
      exact lv_ldc2 hx hb hown (hW.at hw rfl) hdg (k H locs cells slots ls hR hS hL hc hl)
  | iload_n i =>
    simp only [Bool.and_eq_true, decide_eq_true_eq] at he1
    simp only [ilen] at he1
    obtain ⟨hdg, rfl⟩ := he1
    simp only [stp] at hs
    have hz9 := gI_inv hs
    clear hs
    obtain ⟨x, hg, hs⟩ := hz9
    cases hs
    exact lv_iload_n hx hb hdg rfl (hL.get hg) (k H locs cells slots ls hR hS hL hc hl)
  | iload i =>
    simp only [Bool.and_eq_true, decide_eq_true_eq] at he1
    simp only [ilen] at he1
    obtain ⟨hdg, rfl⟩ := he1
    simp only [stp] at hs
    have hz9 := gI_inv hs
    clear hs
    obtain ⟨x, hg, hs⟩ := hz9
    cases hs
    exact lv_iload hx hb hdg (hL.get hg) (k H locs cells slots ls hR hS hL hc hl)
  | lload_n i =>
    simp only [Bool.and_eq_true, decide_eq_true_eq] at he1
    simp only [ilen] at he1
    obtain ⟨hdg, rfl⟩ := he1
    simp only [stp] at hs
    have hz9 := gJ_inv hs
    clear hs
    obtain ⟨x, hg, hs⟩ := hz9
    cases hs
    exact lv_lload_n hx hb hdg rfl (hL.get hg) (k H locs cells slots ls hR hS hL hc hl)
  | lload i =>
    simp only [Bool.and_eq_true, decide_eq_true_eq] at he1
    simp only [ilen] at he1
    obtain ⟨hdg, rfl⟩ := he1
    simp only [stp] at hs
    have hz9 := gJ_inv hs
    clear hs
    obtain ⟨x, hg, hs⟩ := hz9
    cases hs
    exact lv_lload hx hb hdg (hL.get hg) (k H locs cells slots ls hR hS hL hc hl)
  | aload_n i =>
    simp only [Bool.and_eq_true, decide_eq_true_eq] at he1
    simp only [ilen] at he1
    obtain ⟨hdg, rfl⟩ := he1
    simp only [stp] at hs
    have hz9 := gQ_inv hs
    clear hs
    obtain ⟨x, hg, hs⟩ := hz9
    cases hs
    exact rw_aload_n hx hb hdg (hL.get hg) (k H locs cells slots ls hR hS hL hc hl)
  | aload i =>
    simp only [Bool.and_eq_true, decide_eq_true_eq] at he1
    simp only [ilen] at he1
    obtain ⟨hdg, rfl⟩ := he1
    simp only [stp] at hs
    have hz9 := gQ_inv hs
    clear hs
    obtain ⟨x, hg, hs⟩ := hz9
    cases hs
    exact rw_aload hx hb hdg (hL.get hg) (k H locs cells slots ls hR hS hL hc hl)
  | istore_n i =>
    simp only [Bool.and_eq_true, decide_eq_true_eq] at he1
    simp only [ilen] at he1
    obtain ⟨hdg, rfl⟩ := he1
    simp only [stp] at hs
    have hz9 := pI_inv hs
    clear hs
    obtain ⟨x, r0, rfl, hs⟩ := hz9
    have hz9 := iff'_inv hs
    clear hs
    obtain ⟨hi, hs⟩ := hz9
    cases hs
    exact wx_store1 hL hi rfl (fun ls' e' kk => rw_istore_n hx hb hdg e' kk) (fun ls' hL' => k H locs cells slots ls' hR hS hL' hc hl)
  | istore i =>
    simp only [Bool.and_eq_true, decide_eq_true_eq] at he1
    simp only [ilen] at he1
    obtain ⟨hdg, rfl⟩ := he1
    simp only [stp] at hs
    have hz9 := pI_inv hs
    clear hs
    obtain ⟨x, r0, rfl, hs⟩ := hz9
    have hz9 := iff'_inv hs
    clear hs
    obtain ⟨hi, hs⟩ := hz9
    cases hs
    exact wx_store1 hL hi rfl (fun ls' e' kk => rw_istore hx hb hdg e' kk) (fun ls' hL' => k H locs cells slots ls' hR hS hL' hc hl)
  | lstore_n i =>
    simp only [Bool.and_eq_true, decide_eq_true_eq] at he1
    simp only [ilen] at he1
    obtain ⟨hdg, rfl⟩ := he1
    simp only [stp] at hs
    have hz9 := pJ_inv hs
    clear hs
    obtain ⟨x, r0, rfl, hs⟩ := hz9
    have hz9 := iff'_inv hs
    clear hs
    obtain ⟨hi, hs⟩ := hz9
    cases hs
    exact wx_store2 hL hi rfl (fun ls' e' kk => rw_lstore_n hx hb hdg e' kk) (fun ls' hL' => k H locs cells slots ls' hR hS hL' hc hl)
  | lstore i =>
    simp only [Bool.and_eq_true, decide_eq_true_eq] at he1
    simp only [ilen] at he1
    obtain ⟨hdg, rfl⟩ := he1
    simp only [stp] at hs
    have hz9 := pJ_inv hs
    clear hs
    obtain ⟨x, r0, rfl, hs⟩ := hz9
    have hz9 := iff'_inv hs
    clear hs
    obtain ⟨hi, hs⟩ := hz9
    cases hs
    exact wx_store2 hL hi rfl (fun ls' e' kk => rw_lstore hx hb hdg e' kk) (fun ls' hL' => k H locs cells slots ls' hR hS hL' hc hl)
  | astore_n i =>
    simp only [Bool.and_eq_true, decide_eq_true_eq] at he1
    simp only [ilen] at he1
    obtain ⟨hdg, rfl⟩ := he1
    simp only [stp] at hs
    have hz9 := pQ_inv hs
    clear hs
    obtain ⟨x, r0, rfl, hs⟩ := hz9
    have hz9 := iff'_inv hs
    clear hs
    obtain ⟨hi, hs⟩ := hz9
    cases hs
    exact wx_store1 hL hi (by cases x <;> rfl) (fun ls' e' kk => rw_astore_n hx hb hdg e' kk) (fun ls' hL' => k H locs cells slots ls' hR hS hL' hc hl)
  | astore i =>
    simp only [Bool.and_eq_true, decide_eq_true_eq] at he1
    simp only [ilen] at he1
    obtain ⟨hdg, rfl⟩ := he1
    simp only [stp] at hs
    have hz9 := pQ_inv hs
    clear hs
    obtain ⟨x, r0, rfl, hs⟩ := hz9
    have hz9 := iff'_inv hs
    clear hs
    obtain ⟨hi, hs⟩ := hz9
    cases hs
    exact wx_store1 hL hi (by cases x <;> rfl) (fun ls' e' kk => rw_astore hx hb hdg e' kk) (fun ls' hL' => k H locs cells slots ls' hR hS hL' hc hl)
  | iinc i n =>
    simp only [Bool.and_eq_true, decide_eq_true_eq] at he1
    simp only [ilen] at he1
    obtain ⟨hdg, rfl⟩ := he1
    simp only [stp] at hs
    have hz9 := gI_inv hs
    clear hs
    obtain ⟨x, hg, hs⟩ := hz9
    have hz9 := iff'_inv hs
    clear hs
    obtain ⟨hi, hs⟩ := hz9
    cases hs
    exact wx_store1 hL hi rfl (fun ls' e' kk => rw_iinc hx hb hdg (hL.get hg) e' kk) (fun ls' hL' => k H locs cells slots ls' hR hS hL' hc hl)
  | iadd =>
    simp only [Bool.and_eq_true, decide_eq_true_eq] at he1
    simp only [ilen] at he1
    obtain ⟨hdg, rfl⟩ := he1
    simp only [stp] at hs
    have hz9 := pI_inv hs
    clear hs
    obtain ⟨y, r0, rfl, hs⟩ := hz9
    have hz9 := pI_inv hs
    clear hs
    obtain ⟨x, r0, rfl, hs⟩ := hz9
    cases hs
    exact lv_iadd hx hb hdg (k H locs cells slots ls hR hS hL hc hl)
  | isub =>
    simp only [Bool.and_eq_true, decide_eq_true_eq] at he1
    simp only [ilen] at he1
    obtain ⟨hdg, rfl⟩ := he1
    simp only [stp] at hs
    have hz9 := pI_inv hs
    clear hs
    obtain ⟨y, r0, rfl, hs⟩ := hz9
    have hz9 := pI_inv hs
    clear hs
    obtain ⟨x, r0, rfl, hs⟩ := hz9
    cases hs
    exact lv_isub hx hb hdg (k H locs cells slots ls hR hS hL hc hl)
  | imul =>
    simp only [Bool.and_eq_true, decide_eq_true_eq] at he1
    simp only [ilen] at he1
    obtain ⟨hdg, rfl⟩ := he1
    simp only [stp] at hs
    have hz9 := pI_inv hs
    clear hs
    obtain ⟨y, r0, rfl, hs⟩ := hz9
    have hz9 := pI_inv hs
    clear hs
    obtain ⟨x, r0, rfl, hs⟩ := hz9
    cases hs
    exact lv_imul hx hb hdg (k H locs cells slots ls hR hS hL hc hl)
  | iand =>
    simp only [Bool.and_eq_true, decide_eq_true_eq] at he1
    simp only [ilen] at he1
    obtain ⟨hdg, rfl⟩ := he1
    simp only [stp] at hs
    have hz9 := pI_inv hs
    clear hs
    obtain ⟨y, r0, rfl, hs⟩ := hz9
    have hz9 := pI_inv hs
    clear hs
    obtain ⟨x, r0, rfl, hs⟩ := hz9
    cases hs
    exact lv_iand hx hb hdg (k H locs cells slots ls hR hS hL hc hl)
  | ior =>
    simp only [Bool.and_eq_true, decide_eq_true_eq] at he1
    simp only [ilen] at he1
    obtain ⟨hdg, rfl⟩ := he1
    simp only [stp] at hs
    have hz9 := pI_inv hs
    clear hs
    obtain ⟨y, r0, rfl, hs⟩ := hz9
    have hz9 := pI_inv hs
    clear hs
    obtain ⟨x, r0, rfl, hs⟩ := hz9
    cases hs
    exact lv_ior hx hb hdg (k H locs cells slots ls hR hS hL hc hl)
  | ishl =>
    simp only [Bool.and_eq_true, decide_eq_true_eq] at he1
    simp only [ilen] at he1
    obtain ⟨hdg, rfl⟩ := he1
    simp only [stp] at hs
    have hz9 := pI_inv hs
    clear hs
    obtain ⟨y, r0, rfl, hs⟩ := hz9
    have hz9 := pI_inv hs
    clear hs
    obtain ⟨x, r0, rfl, hs⟩ := hz9
    cases hs
    exact lv_ishl hx hb hdg (k H locs cells slots ls hR hS hL hc hl)
  | ishr =>
    simp only [Bool.and_eq_true, decide_eq_true_eq] at he1
    simp only [ilen] at he1
    obtain ⟨hdg, rfl⟩ := he1
    simp only [stp] at hs
    have hz9 := pI_inv hs
    clear hs
    obtain ⟨y, r0, rfl, hs⟩ := hz9
    have hz9 := pI_inv hs
    clear hs
    obtain ⟨x, r0, rfl, hs⟩ := hz9
    cases hs
    exact lv_ishr hx hb hdg (k H locs cells slots ls hR hS hL hc hl)
  | iushr =>
    simp only [Bool.and_eq_true, decide_eq_true_eq] at he1
    simp only [ilen] at he1
    obtain ⟨hdg, rfl⟩ := he1
    simp only [stp] at hs
    have hz9 := pI_inv hs
    clear hs
    obtain ⟨y, r0, rfl, hs⟩ := hz9
    have hz9 := pI_inv hs
    clear hs
    obtain ⟨x, r0, rfl, hs⟩ := hz9
    cases hs
    exact lv_iushr hx hb hdg rfl (k H locs cells slots ls hR hS hL hc hl)
  | idiv =>
    simp only [Bool.and_eq_true, decide_eq_true_eq] at he1
    simp only [ilen] at he1
    obtain ⟨hdg, rfl⟩ := he1
    simp only [stp] at hs
    have hz9 := pI_inv hs
    clear hs
    obtain ⟨y, r0, rfl, hs⟩ := hz9
    have hz9 := pI_inv hs
    clear hs
    obtain ⟨x, r0, rfl, hs⟩ := hz9
    have hz9 := iff'_inv hs
    clear hs
    obtain ⟨hn, hs⟩ := hz9
    cases hs
    exact lv_idiv hx hb hdg hn (k H locs cells slots ls hR hS hL hc hl)
  | irem =>
    simp only [Bool.and_eq_true, decide_eq_true_eq] at he1
    simp only [ilen] at he1
    obtain ⟨hdg, rfl⟩ := he1
    simp only [stp] at hs
    have hz9 := pI_inv hs
    clear hs
    obtain ⟨y, r0, rfl, hs⟩ := hz9
    have hz9 := pI_inv hs
    clear hs
    obtain ⟨x, r0, rfl, hs⟩ := hz9
    have hz9 := iff'_inv hs
    clear hs
    obtain ⟨hn, hs⟩ := hz9
    cases hs
    exact lv_irem hx hb hdg hn (k H locs cells slots ls hR hS hL hc hl)
  | ladd =>
    simp only [Bool.and_eq_true, decide_eq_true_eq] at he1
    simp only [ilen] at he1
    obtain ⟨hdg, rfl⟩ := he1
    simp only [stp] at hs
    have hz9 := pJ_inv hs
    clear hs
    obtain ⟨y, r0, rfl, hs⟩ := hz9
    have hz9 := pJ_inv hs
    clear hs
    obtain ⟨x, r0, rfl, hs⟩ := hz9
    cases hs
    exact lv_ladd hx hb hdg (k H locs cells slots ls hR hS hL hc hl)
  | lsub =>
    simp only [Bool.and_eq_true, decide_eq_true_eq] at he1
    simp only [ilen] at he1
    obtain ⟨hdg, rfl⟩ := he1
    simp only [stp] at hs
    have hz9 := pJ_inv hs
    clear hs
    obtain ⟨y, r0, rfl, hs⟩ := hz9
    have hz9 := pJ_inv hs
    clear hs
    obtain ⟨x, r0, rfl, hs⟩ := hz9
    cases hs
    exact lv_lsub hx hb hdg (k H locs cells slots ls hR hS hL hc hl)
  | lmul =>
    simp only [Bool.and_eq_true, decide_eq_true_eq] at he1
    simp only [ilen] at he1
    obtain ⟨hdg, rfl⟩ := he1
    simp only [stp] at hs
    have hz9 := pJ_inv hs
    clear hs
    obtain ⟨y, r0, rfl, hs⟩ := hz9
    have hz9 := pJ_inv hs
    clear hs
    obtain ⟨x, r0, rfl, hs⟩ := hz9
    cases hs
    exact lv_lmul hx hb hdg (k H locs cells slots ls hR hS hL hc hl)
  | land =>
    simp only [Bool.and_eq_true, decide_eq_true_eq] at he1
    simp only [ilen] at he1
    obtain ⟨hdg, rfl⟩ := he1
    simp only [stp] at hs
    have hz9 := pJ_inv hs
    clear hs
    obtain ⟨y, r0, rfl, hs⟩ := hz9
    have hz9 := pJ_inv hs
    clear hs
    obtain ⟨x, r0, rfl, hs⟩ := hz9
    cases hs
    exact lv_land hx hb hdg (k H locs cells slots ls hR hS hL hc hl)
  | lor =>
    simp only [Bool.and_eq_true, decide_eq_true_eq] at he1
    simp only [ilen] at he1
    obtain ⟨hdg, rfl⟩ := he1
    simp only [stp] at hs
    have hz9 := pJ_inv hs
    clear hs
    obtain ⟨y, r0, rfl, hs⟩ := hz9
    have hz9 := pJ_inv hs
    clear hs
    obtain ⟨x, r0, rfl, hs⟩ := hz9
    cases hs
    exact lv_lor hx hb hdg (k H locs cells slots ls hR hS hL hc hl)
  | lcmp =>
    simp only [Bool.and_eq_true, decide_eq_true_eq] at he1
    simp only [ilen] at he1
    obtain ⟨hdg, rfl⟩ := he1
    simp only [stp] at hs
    have hz9 := pJ_inv hs
    clear hs
    obtain ⟨y, r0, rfl, hs⟩ := hz9
    have hz9 := pJ_inv hs
    clear hs
    obtain ⟨x, r0, rfl, hs⟩ := hz9
    cases hs
    exact W.lcmp hx hb hdg (k H locs cells slots ls hR hS hL hc hl)
  | lshl =>
    simp only [Bool.and_eq_true, decide_eq_true_eq] at he1
    simp only [ilen] at he1
    obtain ⟨hdg, rfl⟩ := he1
    simp only [stp] at hs
    have hz9 := pI_inv hs
    clear hs
    obtain ⟨y, r0, rfl, hs⟩ := hz9
    have hz9 := pJ_inv hs
    clear hs
    obtain ⟨x, r0, rfl, hs⟩ := hz9
    cases hs
    exact lv_lshl hx hb hdg rfl (k H locs cells slots ls hR hS hL hc hl)
  | lshr =>
    simp only [Bool.and_eq_true, decide_eq_true_eq] at he1
    simp only [ilen] at he1
    obtain ⟨hdg, rfl⟩ := he1
    simp only [stp] at hs
    have hz9 := pI_inv hs
    clear hs
    obtain ⟨y, r0, rfl, hs⟩ := hz9
    have hz9 := pJ_inv hs
    clear hs
    obtain ⟨x, r0, rfl, hs⟩ := hz9
    cases hs
    exact lv_lshr hx hb hdg rfl (k H locs cells slots ls hR hS hL hc hl)
  | lushr =>
    simp only [Bool.and_eq_true, decide_eq_true_eq] at he1
    simp only [ilen] at he1
    obtain ⟨hdg, rfl⟩ := he1
    simp only [stp] at hs
    have hz9 := pI_inv hs
    clear hs
    obtain ⟨y, r0, rfl, hs⟩ := hz9
    have hz9 := pJ_inv hs
    clear hs
    obtain ⟨x, r0, rfl, hs⟩ := hz9
    cases hs
    exact lv_lushr hx hb hdg rfl (k H locs cells slots ls hR hS hL hc hl)
  | i2l =>
    simp only [Bool.and_eq_true, decide_eq_true_eq] at he1
    simp only [ilen] at he1
    obtain ⟨hdg, rfl⟩ := he1
    simp only [stp] at hs
    have hz9 := pI_inv hs
    clear hs
    obtain ⟨x, r0, rfl, hs⟩ := hz9
    cases hs
    exact lv_i2l hx hb hdg rfl (k H locs cells slots ls hR hS hL hc hl)
  | l2i =>
    simp only [Bool.and_eq_true, decide_eq_true_eq] at he1
    simp only [ilen] at he1
    obtain ⟨hdg, rfl⟩ := he1
    simp only [stp] at hs
    have hz9 := pJ_inv hs
    clear hs
    obtain ⟨x, r0, rfl, hs⟩ := hz9
    cases hs
    exact lv_l2i hx hb hdg rfl (k H locs cells slots ls hR hS hL hc hl)
  | i2b =>
    simp only [Bool.and_eq_true, decide_eq_true_eq] at he1
    simp only [ilen] at he1
    obtain ⟨hdg, rfl⟩ := he1
    simp only [stp] at hs
    have hz9 := pI_inv hs
    clear hs
    obtain ⟨x, r0, rfl, hs⟩ := hz9
    cases hs
    exact lv_i2b hx hb hdg rfl (k H locs cells slots ls hR hS hL hc hl)
  | dup =>
    simp only [Bool.and_eq_true, decide_eq_true_eq] at he1
    simp only [ilen] at he1
    obtain ⟨hdg, rfl⟩ := he1
    simp only [stp] at hs
    have hz9 := p1_inv hs
    clear hs
    obtain ⟨v, r, rfl, hv, hs⟩ := hz9
    cases hs
    exact lv_dup hx hb hdg hv (k H locs cells slots ls hR hS hL hc hl)
  | pop =>
    simp only [Bool.and_eq_true, decide_eq_true_eq] at he1
    simp only [ilen] at he1
    obtain ⟨hdg, rfl⟩ := he1
    simp only [stp] at hs
    have hz9 := p1_inv hs
    clear hs
    obtain ⟨v, r, rfl, hv, hs⟩ := hz9
    cases hs
    exact lv_pop hx hb hdg hv (k H locs cells slots ls hR hS hL hc hl)
  | dup_x1 =>
    simp only [Bool.and_eq_true, decide_eq_true_eq] at he1
    simp only [ilen] at he1
    obtain ⟨hdg, rfl⟩ := he1
    simp only [stp] at hs
    have hz9 := p1_inv hs
    clear hs
    obtain ⟨v, r, rfl, hv, hs⟩ := hz9
    have hz9 := p1_inv hs
    clear hs
    obtain ⟨w, r, rfl, hw, hs⟩ := hz9
    cases hs
    exact lv_dup_x1 hx hb hdg hv hw (k H locs cells slots ls hR hS hL hc hl)
  | dup_x2 =>
    simp only [Bool.and_eq_true, decide_eq_true_eq] at he1
    simp only [ilen] at he1
    obtain ⟨hdg, rfl⟩ := he1
    simp only [stp] at hs
    have hz9 := p1_inv hs
    clear hs
    obtain ⟨v, r, rfl, hv, hs⟩ := hz9
    have hz9 := p1_inv hs
    clear hs
    obtain ⟨w, r, rfl, hw, hs⟩ := hz9
    have hz9 := p1_inv hs
    clear hs
    obtain ⟨u, r, rfl, hu, hs⟩ := hz9
    cases hs
    exact lv_dup_x2 hx hb hdg hv hw hu (k H locs cells slots ls hR hS hL hc hl)
  | dup2 =>
    simp only [Bool.and_eq_true, decide_eq_true_eq] at he1
    simp only [ilen] at he1
    obtain ⟨hdg, rfl⟩ := he1
    simp only [stp] at hs
    have hz9 := p1_inv hs
    clear hs
    obtain ⟨v, r, rfl, hv, hs⟩ := hz9
    have hz9 := p1_inv hs
    clear hs
    obtain ⟨w, r, rfl, hw, hs⟩ := hz9
    cases hs
    exact lv_dup2_11 hx hb hdg hv hw (k H locs cells slots ls hR hS hL hc hl)
  | goto off =>
    simp only [Bool.and_eq_true, decide_eq_true_eq] at he1
    simp only [ilen] at he1
    obtain ⟨hdg, rfl⟩ := he1
    obtain ⟨t, r, rfl, ht⟩ := tgt1_inv he2
    cases hs
    exact lv_goto hx hb hdg ht (k H locs cells slots ls hR hS hL hc hl)
  | ifnull off =>
    simp only [Bool.and_eq_true, decide_eq_true_eq] at he1
    simp only [ilen] at he1
    obtain ⟨hdg, rfl⟩ := he1
    obtain ⟨t, r, rfl, ht⟩ := tgt1_inv he2
    simp only [stp, nI1_cons] at hs
    have hz9 := pQ_inv hs
    clear hs
    obtain ⟨x, r, rfl, hs⟩ := hz9
    cases x with
    | none => cases hs; exact lv_ifnullN hx hb hdg ht (k H locs cells slots ls hR hS hL hc hl)
    | some y => cases hs; exact lv_ifnull hx hb hdg (k H locs cells slots ls hR hS hL hc hl)
  | ifnonnull off =>
    simp only [Bool.and_eq_true, decide_eq_true_eq] at he1
    simp only [ilen] at he1
    obtain ⟨hdg, rfl⟩ := he1
    obtain ⟨t, r, rfl, ht⟩ := tgt1_inv he2
    simp only [stp, nI1_cons] at hs
    have hz9 := pQ_inv hs
    clear hs
    obtain ⟨x, r, rfl, hs⟩ := hz9
    cases x with
    | none => cases hs; exact lv_ifnonnullN hx hb hdg (k H locs cells slots ls hR hS hL hc hl)
    | some y => cases hs; exact lv_ifnonnull hx hb hdg ht (k H locs cells slots ls hR hS hL hc hl)
  | ifCond cd off =>
    simp only [Bool.and_eq_true, decide_eq_true_eq] at he1
    simp only [ilen] at he1
    obtain ⟨hdg, rfl⟩ := he1
    obtain ⟨t, r, rfl, ht⟩ := tgt1_inv he2
    simp only [stp, nI1_cons] at hs
    have hz9 := pI_inv hs
    clear hs
    obtain ⟨x, r, rfl, hs⟩ := hz9
    have k : ∀ pc'', pc'' = pc' → lv = lv' → r = st' → h = h1 → W p l e R s m args below meth c H locs cells slots Q (F0 m pc'' ls r) := by
      intro pc'' e1 e2 e3 e4
      subst e1 e2 e3 e4
      exact k H locs cells slots ls hR hS hL hc hl
    cases cd <;> simp only [Option.some.injEq, Prod.mk.injEq] at hs <;> obtain ⟨q1, q2, q3, q4⟩ := hs
    · exact lv_if_eq hx hb hdg ht (fun z => k _ (by rw [← q1, if_pos z]) q2 q3 q4) (fun z => k _ (by rw [← q1, if_neg z]) q2 q3 q4)
    · exact lv_if_ne hx hb hdg ht (fun z => k _ (by rw [← q1, if_neg z]) q2 q3 q4) (fun z => k _ (by rw [← q1, if_pos z]) q2 q3 q4)
    · exact lv_if_lt hx hb hdg ht (fun z => k _ (by rw [← q1, if_pos z]) q2 q3 q4) (fun z => k _ (by rw [← q1, if_neg z]) q2 q3 q4)
    · exact lv_if_ge hx hb hdg ht (fun z => k _ (by rw [← q1, if_pos z]) q2 q3 q4) (fun z => k _ (by rw [← q1, if_neg z]) q2 q3 q4)
    · exact lv_if_gt hx hb hdg ht (fun z => k _ (by rw [← q1, if_pos z]) q2 q3 q4) (fun z => k _ (by rw [← q1, if_neg z]) q2 q3 q4)
    · exact lv_if_le hx hb hdg ht (fun z => k _ (by rw [← q1, if_pos z]) q2 q3 q4) (fun z => k _ (by rw [← q1, if_neg z]) q2 q3 q4)
  | if_icmp cd off =>
    simp only [Bool.and_eq_true, decide_eq_true_eq] at he1
    simp only [ilen] at he1
    obtain ⟨hdg, rfl⟩ := he1
    obtain ⟨t, r, rfl, ht⟩ := tgt1_inv he2
    simp only [stp, nI1_cons] at hs
    have hz9 := pI_inv hs
    clear hs
    obtain ⟨y, r, rfl, hs⟩ := hz9
    have hz9 := pI_inv hs
    clear hs
    obtain ⟨x, r, rfl, hs⟩ := hz9
    have k : ∀ pc'', pc'' = pc' → lv = lv' → r = st' → h = h1 → W p l e R s m args below meth c H locs cells slots Q (F0 m pc'' ls r) := by
      intro pc'' e1 e2 e3 e4
      subst e1 e2 e3 e4
      exact k H locs cells slots ls hR hS hL hc hl
    cases cd <;> simp only [Option.some.injEq, Prod.mk.injEq] at hs <;> obtain ⟨q1, q2, q3, q4⟩ := hs
    · exact lv_icmp_eq hx hb hdg ht (fun z => k _ (by rw [← q1, if_pos z]) q2 q3 q4) (fun z => k _ (by rw [← q1, if_neg z]) q2 q3 q4)
    · exact lv_icmp_ne hx hb hdg ht (fun z => k _ (by rw [← q1, if_neg z]) q2 q3 q4) (fun z => k _ (by rw [← q1, if_pos z]) q2 q3 q4)
    · exact lv_icmp_lt hx hb hdg ht (fun z => k _ (by rw [← q1, if_pos z]) q2 q3 q4) (fun z => k _ (by rw [← q1, if_neg z]) q2 q3 q4)
    · exact lv_icmp_ge hx hb hdg ht (fun z => k _ (by rw [← q1, if_pos z]) q2 q3 q4) (fun z => k _ (by rw [← q1, if_neg z]) q2 q3 q4)
    · exact lv_icmp_gt hx hb hdg ht (fun z => k _ (by rw [← q1, if_pos z]) q2 q3 q4) (fun z => k _ (by rw [← q1, if_neg z]) q2 q3 q4)
    · exact lv_icmp_le hx hb hdg ht (fun z => k _ (by rw [← q1, if_pos z]) q2 q3 q4) (fun z => k _ (by rw [← q1, if_neg z]) q2 q3 q4)
  | if_acmp cd off =>
    simp only [Bool.and_eq_true, decide_eq_true_eq] at he1
    simp only [ilen] at he1
    obtain ⟨hdg, rfl⟩ := he1
    obtain ⟨t, r, rfl, ht⟩ := tgt1_inv he2
    simp only [stp, nI1_cons] at hs
    have hz9 := pQ_inv hs
    clear hs
    obtain ⟨y, r, rfl, hs⟩ := hz9
    have hz9 := pQ_inv hs
    clear hs
    obtain ⟨x, r, rfl, hs⟩ := hz9
    have k : ∀ pc'', pc'' = pc' → lv = lv' → r = st' → h = h1 → W p l e R s m args below meth c H locs cells slots Q (F0 m pc'' ls r) := by
      intro pc'' e1 e2 e3 e4
      subst e1 e2 e3 e4
      exact k H locs cells slots ls hR hS hL hc hl
    cases cd <;> simp only [Option.some.injEq, Prod.mk.injEq] at hs <;> obtain ⟨q1, q2, q3, q4⟩ := hs
    · exact lv_acmp_eq hx hb hdg ht (fun z => k _ (by rw [← q1, if_pos z]) q2 q3 q4) (fun z => k _ (by rw [← q1, if_neg z]) q2 q3 q4)
    · exact lv_acmp_ne hx hb hdg ht (fun z => k _ (by rw [← q1, if_neg z]) q2 q3 q4) (fun z => k _ (by rw [← q1, if_pos z]) q2 q3 q4)
  | tableswitch df lo hi offs =>
    simp only [Bool.and_eq_true, decide_eq_true_eq] at he1
    obtain ⟨hdg, he1⟩ := he1
    obtain ⟨t0, ts, rfl⟩ : ∃ t0 ts, ri = t0 :: ts := by
      rcases ri with _ | ⟨r, r9⟩
      · cases he1
      · exact ⟨r, r9, rfl⟩
    simp only [Bool.and_eq_true, decide_eq_true_eq] at he1
    simp only [stp] at hs
    have hz9 := pI_inv hs
    clear hs
    obtain ⟨x, r, rfl, hs⟩ := hz9
    split at hs
    · rename_i hz
      cases hs
      exact lv_tableOut hx hb hdg hz he1.1 (k H locs cells slots ls hR hS hL hc hl)
    · rename_i hz
      rw [List.getElem?_cons_succ] at hs
      cases ht : ts[(x.toInt - lo).toNat]? with
      | none => rw [ht] at hs; cases hs
      | some t =>
        rw [ht] at hs
        cases hs
        have h5 := congrArg (fun l => l[(x.toInt - lo).toNat]?) he1.2
        simp only [List.getElem?_map, ht, Option.map_some] at h5
        cases ho : offs.toList[(x.toInt - lo).toNat]? with
        | none => rw [ho] at h5; cases h5
        | some off =>
          rw [ho] at h5
          have h6 : (pc : Int) + off = (pc' : Int) := Option.some.inj h5
          exact lv_tableIn hx hb hdg (fun q => hz (Or.inl q)) (fun q => hz (Or.inr q)) (by rw [← Array.getElem?_toList]; exact ho) h6 (k H locs cells slots ls hR hS hL hc hl)
  | getfield idx =>
    simp only [Bool.and_eq_true, decide_eq_true_eq] at he1
    simp only [ilen] at he1
    obtain ⟨hdg, rfl⟩ := he1
    obtain ⟨r, ci, kf, r9, rfl⟩ : ∃ r ci kf r9, ri = r :: ci :: kf :: r9 := by
      rcases ri with _ | ⟨r, _ | ⟨ci, _ | ⟨kf, r9⟩⟩⟩
      · cases he2
      · cases he2
      · cases he2
      · exact ⟨r, ci, kf, r9, rfl⟩
    dsimp only at he2
    simp only [stp, nI3] at hs
    have hz9 := pR_inv hs
    clear hs
    obtain ⟨a, r0, rfl, hs⟩ := hz9
    have hz9 := oI_inv hs
    clear hs
    obtain ⟨cj, fs, ha, hs⟩ := hz9
    have hz9 := iff'_inv hs
    clear hs
    obtain ⟨rfl, hs⟩ := hz9
    cases hv : fs[kf]? with
    | none => rw [hv] at hs; cases hs
    | some v =>
      rw [hv] at hs
      cases hs
      cases hq : FT[r]? with
      | none => rw [hq] at he2; cases he2
      | some q =>
        obtain ⟨q1, q2, q3, q4, q5, q6⟩ := q
        rw [hq] at he2
        simp only [Option.any_some, Bool.and_eq_true, decide_eq_true_eq] at he2
        obtain ⟨⟨⟨rfl, rfl⟩, rfl⟩, rfl⟩ := he2
        exact rw_get hx hb hW hown (hR.2.2 a _ ha).2 hq hv hdg (k H locs cells slots ls hR hS hL hc hl)
  | putfield idx =>
    simp only [Bool.and_eq_true, decide_eq_true_eq] at he1
    simp only [ilen] at he1
    obtain ⟨hdg, rfl⟩ := he1
    obtain ⟨r, ci, kf, r9, rfl⟩ : ∃ r ci kf r9, ri = r :: ci :: kf :: r9 := by
      rcases ri with _ | ⟨r, _ | ⟨ci, _ | ⟨kf, r9⟩⟩⟩
      · cases he2
      · cases he2
      · cases he2
      · exact ⟨r, ci, kf, r9, rfl⟩
    obtain ⟨v, st9, rfl⟩ : ∃ v st9, st = v :: st9 := by
      rcases st with _ | ⟨v, st9⟩
      · cases hs
      · exact ⟨v, st9, rfl⟩
    dsimp only at he2
    simp only [stp, nI3] at hs
    have hz9 := pR_inv hs
    clear hs
    obtain ⟨a, r0, rfl, hs⟩ := hz9
    have hz9 := oI_inv hs
    clear hs
    obtain ⟨cj, fs, ha, hs⟩ := hz9
    have hz9 := iff'_inv hs
    clear hs
    obtain ⟨rfl, hs⟩ := hz9
    split at hs
    · rename_i ty hty
      have hz9 := iff'_inv hs
      clear hs
      obtain ⟨hv, hs⟩ := hz9
      cases hs
      cases hq : FT[r]? with
      | none => rw [hq] at he2; cases he2
      | some q =>
        obtain ⟨q1, q2, q3, q4, q5, q6⟩ := q
        rw [hq] at he2
        simp only [Option.any_some, Bool.and_eq_true, decide_eq_true_eq] at he2
        obtain ⟨⟨⟨⟨rfl, rfl⟩, rfl⟩, rfl⟩, hfin⟩ := he2
        exact rw_put hx hb hW hown hR hS ha hq hfin hini hty hv hdg (fun H1 locs1 hR1 hS1 => k H1 locs1 cells slots ls hR1 hS1 hL hc hl)
    · cases hs
  | arraylength =>
    simp only [Bool.and_eq_true, decide_eq_true_eq] at he1
    simp only [ilen] at he1
    obtain ⟨hdg, rfl⟩ := he1
    simp only [stp] at hs
    have hz9 := pR_inv hs
    clear hs
    obtain ⟨a, r0, rfl, hs⟩ := hz9
    split at hs
    · rename_i hz
      subst hz
      cases hs
      exact va_slen (A := fun q => base ≤ q) hx hb hH.2.2.1 hbl hb0 hS hdg (k H locs cells slots ls hR hS hL hc hl)
    · have hz9 := aI_inv hs
      clear hs
      obtain ⟨ty, n, f, ha, hs⟩ := hz9
      cases hs
      obtain ⟨-, ht, hcl⟩ := hR.2.2 a _ ha
      exact W.alen (n := Int32.ofNat n) hx hb hcl ((hW.2.2.1 ty ht).1 n f) (by rw [arrV_size] <;> rfl) rfl rfl hdg (k H locs cells slots ls hR hS hL hc hl)
  | iaload =>
    simp only [Bool.and_eq_true, decide_eq_true_eq] at he1
    simp only [ilen] at he1
    obtain ⟨hdg, rfl⟩ := he1
    simp only [stp] at hs
    have hz9 := pI_inv hs
    clear hs
    obtain ⟨i, r0, rfl, hs⟩ := hz9
    have hz9 := pR_inv hs
    clear hs
    obtain ⟨a, r0, rfl, hs⟩ := hz9
    split at hs
    · rename_i hz
      subst hz
      have hz9 := bI_inv hs
      clear hs
      obtain ⟨hi, hs⟩ := hz9
      cases hs
      exact va_sld (A := fun q => base ≤ q) hx hb hH.2.2.1 hbl hb0 hS hi hdg (k H locs cells slots ls hR hS hL hc hl)
    · have hz9 := aI_inv hs
      clear hs
      obtain ⟨ty, n, f, ha, hs⟩ := hz9
      obtain ⟨hba, ht, hcl⟩ := hR.2.2 a _ ha
      cases ty with
      | int =>
        have hz9 := bI_inv hs
        clear hs
        obtain ⟨hi, hs⟩ := hz9
        cases hs
        exact W.iald hx hb hcl ((hW.2.2.1 _ ht).1 n f) arr_nu (arr_in hi) (arr_rd hi) rfl rfl hdg (k H locs cells slots ls hR hS hL hc hl)
      | _ => cases hs
  | laload =>
    simp only [Bool.and_eq_true, decide_eq_true_eq] at he1
    simp only [ilen] at he1
    obtain ⟨hdg, rfl⟩ := he1
    simp only [stp] at hs
    have hz9 := pI_inv hs
    clear hs
    obtain ⟨i, r0, rfl, hs⟩ := hz9
    have hz9 := pR_inv hs
    clear hs
    obtain ⟨a, r0, rfl, hs⟩ := hz9
    have hz9 := aI_inv hs
    clear hs
    obtain ⟨ty, n, f, ha, hs⟩ := hz9
    obtain ⟨hba, ht, hcl⟩ := hR.2.2 a _ ha
    cases ty with
    | long =>
      have hz9 := bI_inv hs
      clear hs
      obtain ⟨hi, hs⟩ := hz9
      cases hs
      exact W.lald hx hb hcl ((hW.2.2.1 _ ht).1 n f) arr_nu (arr_in hi) (arr_rd hi) rfl rfl hdg (k H locs cells slots ls hR hS hL hc hl)
    | _ => cases hs
  | baload =>
    simp only [Bool.and_eq_true, decide_eq_true_eq] at he1
    simp only [ilen] at he1
    obtain ⟨hdg, rfl⟩ := he1
    simp only [stp] at hs
    have hz9 := pI_inv hs
    clear hs
    obtain ⟨i, r0, rfl, hs⟩ := hz9
    have hz9 := pR_inv hs
    clear hs
    obtain ⟨a, r0, rfl, hs⟩ := hz9
    have hz9 := aI_inv hs
    clear hs
    obtain ⟨ty, n, f, ha, hs⟩ := hz9
    obtain ⟨hba, ht, hcl⟩ := hR.2.2 a _ ha
    cases ty with
    | byte =>
      have hz9 := bI_inv hs
      clear hs
      obtain ⟨hi, hs⟩ := hz9
      cases hs
      exact W.bald hx hb hcl ((hW.2.2.1 _ ht).1 n f) arr_nu (arr_in hi) (arr_rd hi) rfl rfl hdg (k H locs cells slots ls hR hS hL hc hl)
    | boolean =>
      have hz9 := bI_inv hs
      clear hs
      obtain ⟨hi, hs⟩ := hz9
      cases hs
      exact W.zald hx hb hcl ((hW.2.2.1 _ ht).1 n f) arr_nu (arr_in hi) (arr_rd hi) rfl rfl hdg (k H locs cells slots ls hR hS hL hc hl)
    | _ => cases hs
  | aaload =>
    simp only [Bool.and_eq_true, decide_eq_true_eq] at he1
    simp only [ilen] at he1
    obtain ⟨hdg, rfl⟩ := he1
    simp only [stp] at hs
    have hz9 := pI_inv hs
    clear hs
    obtain ⟨i, r0, rfl, hs⟩ := hz9
    have hz9 := pR_inv hs
    clear hs
    obtain ⟨a, r0, rfl, hs⟩ := hz9
    have hz9 := aI_inv hs
    clear hs
    obtain ⟨ty, n, f, ha, hs⟩ := hz9
    obtain ⟨hba, ht, hcl⟩ := hR.2.2 a _ ha
    cases ty with
    | object C =>
      have hz9 := bI_inv hs
      clear hs
      obtain ⟨hi, hs⟩ := hz9
      cases hs
      exact W.aald hx hb hcl ((hW.2.2.1 _ ht).1 n f) rfl arr_nu (arr_in hi) (arr_rd hi) rfl rfl hdg (k H locs cells slots ls hR hS hL hc hl)
    | array t =>
      have hz9 := bI_inv hs
      clear hs
      obtain ⟨hi, hs⟩ := hz9
      cases hs
      exact W.aald hx hb hcl ((hW.2.2.1 _ ht).1 n f) rfl arr_nu (arr_in hi) (arr_rd hi) rfl rfl hdg (k H locs cells slots ls hR hS hL hc hl)
    | _ => cases hs
  | iastore =>
    simp only [Bool.and_eq_true, decide_eq_true_eq] at he1
    simp only [ilen] at he1
    obtain ⟨hdg, rfl⟩ := he1
    simp only [stp] at hs
    have hz9 := pI_inv hs
    clear hs
    obtain ⟨x, r0, rfl, hs⟩ := hz9
    have hz9 := pI_inv hs
    clear hs
    obtain ⟨i, r0, rfl, hs⟩ := hz9
    have hz9 := pR_inv hs
    clear hs
    obtain ⟨a, r0, rfl, hs⟩ := hz9
    have hz9 := aI_inv hs
    clear hs
    obtain ⟨ty, n, f, ha, hs⟩ := hz9
    obtain ⟨hba, ht, hcl⟩ := hR.2.2 a _ ha
    cases ty with
    | int =>
      have hz9 := bI_inv hs
      clear hs
      obtain ⟨hi, hs⟩ := hz9
      cases hs
      exact W.iast hx hb hcl ((hW.2.2.1 _ ht).1 n f) arr_nu (arr_in hi) rfl rfl hdg fun H1 e1 z oq => k H1 _ cells slots ls (hR.ast ha e1 z oq) (hS.put z oq hba) hL hc hl
    | _ => cases hs
  | lastore =>
    simp only [Bool.and_eq_true, decide_eq_true_eq] at he1
    simp only [ilen] at he1
    obtain ⟨hdg, rfl⟩ := he1
    simp only [stp] at hs
    have hz9 := pJ_inv hs
    clear hs
    obtain ⟨x, r0, rfl, hs⟩ := hz9
    have hz9 := pI_inv hs
    clear hs
    obtain ⟨i, r0, rfl, hs⟩ := hz9
    have hz9 := pR_inv hs
    clear hs
    obtain ⟨a, r0, rfl, hs⟩ := hz9
    have hz9 := aI_inv hs
    clear hs
    obtain ⟨ty, n, f, ha, hs⟩ := hz9
    obtain ⟨hba, ht, hcl⟩ := hR.2.2 a _ ha
    cases ty with
    | long =>
      have hz9 := bI_inv hs
      clear hs
      obtain ⟨hi, hs⟩ := hz9
      cases hs
      exact W.last hx hb hcl ((hW.2.2.1 _ ht).1 n f) arr_nu (arr_in hi) rfl rfl hdg fun H1 e1 z oq => k H1 _ cells slots ls (hR.ast ha e1 z oq) (hS.put z oq hba) hL hc hl
    | _ => cases hs
  | bastore =>
    simp only [Bool.and_eq_true, decide_eq_true_eq] at he1
    simp only [ilen] at he1
    obtain ⟨hdg, rfl⟩ := he1
    simp only [stp] at hs
    have hz9 := pI_inv hs
    clear hs
    obtain ⟨x, r0, rfl, hs⟩ := hz9
    have hz9 := pI_inv hs
    clear hs
    obtain ⟨i, r0, rfl, hs⟩ := hz9
    have hz9 := pR_inv hs
    clear hs
    obtain ⟨a, r0, rfl, hs⟩ := hz9
    have hz9 := aI_inv hs
    clear hs
    obtain ⟨ty, n, f, ha, hs⟩ := hz9
    obtain ⟨hba, ht, hcl⟩ := hR.2.2 a _ ha
    cases ty with
    | byte =>
      have hz9 := bI_inv hs
      clear hs
      obtain ⟨hi, hs⟩ := hz9
      cases hs
      exact W.bast hx hb hcl ((hW.2.2.1 _ ht).1 n f) arr_nu (arr_in hi) rfl rfl hdg fun H1 e1 z oq => k H1 _ cells slots ls (hR.ast ha e1 z oq) (hS.put z oq hba) hL hc hl
    | boolean =>
      have hz9 := bI_inv hs
      clear hs
      obtain ⟨hi, hs⟩ := hz9
      cases hs
      exact W.zast hx hb hcl ((hW.2.2.1 _ ht).1 n f) arr_nu (arr_in hi) rfl rfl hdg fun H1 e1 z oq => k H1 _ cells slots ls (hR.ast ha e1 z oq) (hS.put z oq hba) hL hc hl
    | _ => cases hs
  | aastore =>
    simp only [Bool.and_eq_true, decide_eq_true_eq] at he1
    simp only [ilen] at he1
    obtain ⟨hdg, rfl⟩ := he1
    simp only [stp] at hs
    have hz9 := pQ_inv hs
    clear hs
    obtain ⟨x, r0, rfl, hs⟩ := hz9
    have hz9 := pI_inv hs
    clear hs
    obtain ⟨i, r0, rfl, hs⟩ := hz9
    have hz9 := pR_inv hs
    clear hs
    obtain ⟨a, r0, rfl, hs⟩ := hz9
    have hz9 := aI_inv hs
    clear hs
    obtain ⟨ty, n, f, ha, hs⟩ := hz9
    obtain ⟨hba, ht, hcl⟩ := hR.2.2 a _ ha
    cases ty with
    | object C =>
      have hz9 := bI_inv hs
      clear hs
      obtain ⟨hi, hs⟩ := hz9
      cases x with
      | none =>
        cases hs
        exact va_WaastN (C := C) hx hb hcl ((hW.2.2.1 _ ht).1 n f) arr_nu (arr_in hi) rfl rfl hdg fun H1 e1 z oq => k H1 _ cells slots ls (hR.ast ha e1 z oq) (hS.put z oq hba) hL hc hl
      | some v =>
        have hz9 := oI_inv hs
        clear hs
        obtain ⟨cj, fs, hv, hs⟩ := hz9
        have hz9 := iff'_inv hs
        clear hs
        obtain ⟨hC, hs⟩ := hz9
        cases hs
        obtain ⟨hbv, q, h1, h2, cell, g1, g2, g3, -⟩ := hR.2.2 v _ hv
        rw [h1] at hC
        cases hC
        have hcls := (hW.2.1.1 cj q h1).2
        obtain ⟨kA, comp, k1, k2, k3, -⟩ := (hW.2.2.1 _ ht).2
        have hcomp : comp = D.1 cj := Option.some.inj (k3.symm.trans hcls.1)
        subst hcomp
        obtain ⟨kC, hkC, -⟩ := hcls.2
        exact W.aast hx hb hcl (fun q h => by cases h) arr_nu k1 k2 rfl hkC ⟨fun q => hi (Or.inl q), by rw [arrV_size]; exact Nat.not_le.mp fun q => hi (Or.inr q)⟩ g1 (fun q h => by rw [g3] at h; cases h) (by rw [g2]; exact hkC) (by rw [g2]; exact va_assign hcls) rfl rfl hdg
          fun H1 e1 z oq => k H1 _ cells slots ls (hR.ast ha e1 z oq) (hS.put z oq hba) hL hc hl
    | _ => cases hs
  | newarray at_ =>
    simp only [Bool.and_eq_true, decide_eq_true_eq] at he1
    simp only [ilen] at he1
    obtain ⟨hdg, rfl⟩ := he1
    simp only [stp] at hs
    have hz9 := pI_inv hs
    clear hs
    obtain ⟨n, r0, rfl, hs⟩ := hz9
    cases ht : newT at_ with
    | none => rw [ht] at hs; cases hs
    | some ty =>
      rw [ht] at hs
      have hz9 := iff'_inv hs
      clear hs
      obtain ⟨hn, hs⟩ := hz9
      cases hs
      have r1 : h.1 + 1 ≤ n0 + R.cells := hroom.1
      have r2 : h.2.1 + n.toNatClampNeg ≤ s0 + R.slots := hroom.2
      exact rw_newa hx hb hW hR hS ht hn (by omega) (by omega) hdg fun H1 hR1 hS1 => k H1 locs _ _ ls hR1 hS1 hL (by show cells + 1 + n0 = h.1 + 1; omega) (by show slots + n.toNatClampNeg + s0 = h.2.1 + n.toNatClampNeg; omega)
  | anewarray idx =>
    simp only [Bool.and_eq_true, decide_eq_true_eq] at he1
    simp only [ilen] at he1
    obtain ⟨hdg, rfl⟩ := he1
    obtain ⟨t, wi, wj, r9, rfl⟩ : ∃ t wi wj r9, ri = t :: wi :: wj :: r9 := by
      rcases ri with _ | ⟨t, _ | ⟨wi, _ | ⟨wj, r9⟩⟩⟩
      · cases he2
      · cases he2
      · cases he2
      · exact ⟨t, wi, wj, r9, rfl⟩
    simp only [stp, nI1_cons] at hs
    have hz9 := pI_inv hs
    clear hs
    obtain ⟨n, r0, rfl, hs⟩ := hz9
    dsimp only at he2
    split at hs
    · rename_i C ht
      rw [ht] at he2
      simp only [Bool.and_eq_true, decide_eq_true_eq] at he2
      have hz9 := iff'_inv hs
      clear hs
      obtain ⟨hn, hs⟩ := hz9
      cases hs
      have r1 : h.1 + 1 ≤ n0 + R.cells := hroom.1
      have r2 : h.2.1 + n.toNatClampNeg ≤ s0 + R.slots := hroom.2
      exact rw_anew hx hb hW hown hR hS (List.mem_of_getElem? ht) he2.1 he2.2 hn (by omega) (by omega) hdg fun H1 hR1 hS1 => k H1 locs _ _ ls hR1 hS1 hL (by show cells + 1 + n0 = h.1 + 1; omega) (by show slots + n.toNatClampNeg + s0 = h.2.1 + n.toNatClampNeg; omega)
    · cases hs
  | new idx =>
    simp only [Bool.and_eq_true, decide_eq_true_eq] at he1
    simp only [ilen] at he1
    obtain ⟨hdg, rfl⟩ := he1
    obtain ⟨ci, wi, r9, rfl⟩ : ∃ ci wi r9, ri = ci :: wi :: r9 := by
      rcases ri with _ | ⟨ci, _ | ⟨wi, r9⟩⟩
      · cases he2
      · cases he2
      · exact ⟨ci, wi, r9, rfl⟩
    dsimp only at he2
    simp only [stp, nI1_cons] at hs
    cases hv : vty[ci]? with
    | none => rw [hv] at hs; cases hs
    | some ts =>
      rw [hv] at hs
      cases hs
      cases hq : vcl[ci]? with
      | none => rw [hq] at he2; cases he2
      | some q =>
        rw [hq] at he2
        simp only [Option.any_some, decide_eq_true_eq] at he2
        have r1 : h.1 + 1 ≤ n0 + R.cells := hroom.1
        have r2 : h.2.1 + ts.length ≤ s0 + R.slots := hroom.2
        exact rw_new hx hb hW hown hR hS hq hv he2 (by omega) (by omega) hdg fun H1 hR1 hS1 => k H1 locs _ _ ls hR1 hS1 hL (by show cells + 1 + n0 = h.1 + 1; omega) (by show slots + ts.length + s0 = h.2.1 + ts.length; omega)
  | _ => cases hs
end SndS
end
section
/-! a step never takes cells or slots back -/
def Mo (h : AH) (o : Option SR) : Prop := ∀ z : SR, o = some z → h.1 ≤ z.2.2.2.1 ∧ h.2.1 ≤ z.2.2.2.2.1
theorem Mo_none {h : AH} : Mo h none := fun _ q => nomatch q
theorem Mo_keep {h : AH} {pc : Nat} {lv : List (Option Value)} {st : List Value} : Mo h (some (pc, lv, st, h)) := fun _ q => by cases q; exact ⟨Nat.le_refl _, Nat.le_refl _⟩
theorem Mo_put {h : AH} {pc : Nat} {lv : List (Option Value)} {st : List Value} {a : Nat} {o : AO} : Mo h (some (pc, lv, st, hput h a o)) := fun _ q => by cases q; exact ⟨Nat.le_refl _, Nat.le_refl _⟩
theorem Mo_new {h : AH} {pc : Nat} {lv : List (Option Value)} {st : List Value} {o : AO} {k : Nat} : Mo h (some (pc, lv, st, hnew h o k)) := fun _ q => by cases q; exact ⟨Nat.le_add_right _ _, Nat.le_add_right _ _⟩
theorem Mo_pI {h : AH} {st : List Value} {f : Int32 → List Value → Option SR} (k : ∀ x r, Mo h (f x r)) : Mo h (pI st f) := fun _ q => by obtain ⟨x, r, -, e⟩ := pI_inv q; exact k x r _ e
theorem Mo_pJ {h : AH} {st : List Value} {f : Int64 → List Value → Option SR} (k : ∀ x r, Mo h (f x r)) : Mo h (pJ st f) := fun _ q => by obtain ⟨x, r, -, e⟩ := pJ_inv q; exact k x r _ e
theorem Mo_pR {h : AH} {st : List Value} {f : Nat → List Value → Option SR} (k : ∀ x r, Mo h (f x r)) : Mo h (pR st f) := fun _ q => by obtain ⟨x, r, -, e⟩ := pR_inv q; exact k x r _ e
theorem Mo_pQ {h : AH} {st : List Value} {f : Option Nat → List Value → Option SR} (k : ∀ x r, Mo h (f x r)) : Mo h (pQ st f) := fun _ q => by obtain ⟨x, r, -, e⟩ := pQ_inv q; exact k x r _ e
theorem Mo_p1 {h : AH} {st : List Value} {f : Value → List Value → Option SR} (k : ∀ x r, Mo h (f x r)) : Mo h (p1 st f) := fun _ q => by obtain ⟨x, r, -, -, e⟩ := p1_inv q; exact k x r _ e
theorem Mo_gI {h : AH} {lv : List (Option Value)} {i : Nat} {f : Int32 → Option SR} (k : ∀ x, Mo h (f x)) : Mo h (gI lv i f) := fun _ q => by obtain ⟨x, -, e⟩ := gI_inv q; exact k x _ e
theorem Mo_gJ {h : AH} {lv : List (Option Value)} {i : Nat} {f : Int64 → Option SR} (k : ∀ x, Mo h (f x)) : Mo h (gJ lv i f) := fun _ q => by obtain ⟨x, -, e⟩ := gJ_inv q; exact k x _ e
theorem Mo_gQ {h : AH} {lv : List (Option Value)} {i : Nat} {f : Option Nat → Option SR} (k : ∀ x, Mo h (f x)) : Mo h (gQ lv i f) := fun _ q => by obtain ⟨x, -, e⟩ := gQ_inv q; exact k x _ e
theorem Mo_bI {h : AH} {i : Int32} {n : Nat} {z : Option SR} (k : Mo h z) : Mo h (bI i n z) := fun _ q => k _ (bI_inv q).2
theorem Mo_if {h : AH} {c : Prop} [Decidable c] {z : Option SR} (k : Mo h z) : Mo h (iff' c z) := fun _ q => k _ (iff'_inv q).2
theorem Mo_ite {h : AH} {c : Prop} [Decidable c] {z y : Option SR} (k : Mo h z) (k2 : Mo h y) : Mo h (if c then z else y) := by split <;> assumption
theorem Mo_aI {h h' : AH} {a : Nat} {f : FieldType → Nat → (Nat → Value) → Option SR} (k : ∀ x y z, Mo h (f x y z)) : Mo h (aI h' a f) := fun _ q => by obtain ⟨x, y, z, -, e⟩ := aI_inv q; exact k x y z _ e
theorem Mo_oI {h h' : AH} {a : Nat} {f : Nat → List Value → Option SR} (k : ∀ x y, Mo h (f x y)) : Mo h (oI h' a f) := fun _ q => by obtain ⟨x, y, -, e⟩ := oI_inv q; exact k x y _ e
theorem Mo_n1 {h : AH} {ri : List Nat} {f : Nat → Option SR} (k : ∀ x, Mo h (f x)) : Mo h (nI1 ri f) := by
  unfold nI1
  split
  · exact k _
  · exact Mo_none
theorem Mo_n3 {h : AH} {ri : List Nat} {f : Nat → Nat → Option SR} (k : ∀ x y, Mo h (f x y)) : Mo h (nI3 ri f) := by
  unfold nI3
  split
  · exact k _ _
  · exact Mo_none
theorem Mo_bd {h : AH} {α : Type} {o : Option α} {f : α → Option SR} (k : ∀ v, Mo h (f v)) : Mo h (o.bind f) := by
  cases o with
  | none => exact Mo_none
  | some v => exact k v
theorem stp_mono0 {sb sL : Nat} {sx : Nat → Int32} {nL : Nat} (ins : Instr) {nx : Nat} {ri : List Nat} {lv : List (Option Value)} {st : List Value} {h : AH} : Mo h (stp sb sL sx nL ins nx ri lv st h) := by
  cases ins with
  | ldc i => dsimp only [stp]; exact Mo_n1 fun r => by split; exact Mo_keep; exact Mo_none
  | ldc2_w i => dsimp only [stp]; exact Mo_n1 fun r => by split; exact Mo_keep; exact Mo_none
  | iload_n i => dsimp only [stp]; exact Mo_gI fun _ => Mo_keep
  | iload i => dsimp only [stp]; exact Mo_gI fun _ => Mo_keep
  | lload_n i => dsimp only [stp]; exact Mo_gJ fun _ => Mo_keep
  | lload i => dsimp only [stp]; exact Mo_gJ fun _ => Mo_keep
  | aload_n i => dsimp only [stp]; exact Mo_gQ fun _ => Mo_keep
  | aload i => dsimp only [stp]; exact Mo_gQ fun _ => Mo_keep
  | istore_n i => dsimp only [stp]; exact Mo_pI fun _ _ => Mo_if Mo_keep
  | istore i => dsimp only [stp]; exact Mo_pI fun _ _ => Mo_if Mo_keep
  | lstore_n i => dsimp only [stp]; exact Mo_pJ fun _ _ => Mo_if Mo_keep
  | lstore i => dsimp only [stp]; exact Mo_pJ fun _ _ => Mo_if Mo_keep
  | astore_n i => dsimp only [stp]; exact Mo_pQ fun _ _ => Mo_if Mo_keep
  | astore i => dsimp only [stp]; exact Mo_pQ fun _ _ => Mo_if Mo_keep
  | iinc i n => dsimp only [stp]; exact Mo_gI fun _ => Mo_if Mo_keep
  | iadd => dsimp only [stp]; exact Mo_pI fun _ _ => Mo_pI fun _ _ => Mo_keep
  | isub => dsimp only [stp]; exact Mo_pI fun _ _ => Mo_pI fun _ _ => Mo_keep
  | imul => dsimp only [stp]; exact Mo_pI fun _ _ => Mo_pI fun _ _ => Mo_keep
  | iand => dsimp only [stp]; exact Mo_pI fun _ _ => Mo_pI fun _ _ => Mo_keep
  | ior => dsimp only [stp]; exact Mo_pI fun _ _ => Mo_pI fun _ _ => Mo_keep
  | idiv => dsimp only [stp]; exact Mo_pI fun _ _ => Mo_pI fun _ _ => Mo_if Mo_keep
  | irem => dsimp only [stp]; exact Mo_pI fun _ _ => Mo_pI fun _ _ => Mo_if Mo_keep
  | ishl => dsimp only [stp]; exact Mo_pI fun _ _ => Mo_pI fun _ _ => Mo_keep
  | ishr => dsimp only [stp]; exact Mo_pI fun _ _ => Mo_pI fun _ _ => Mo_keep
  | iushr => dsimp only [stp]; exact Mo_pI fun _ _ => Mo_pI fun _ _ => Mo_keep
  | ladd => dsimp only [stp]; exact Mo_pJ fun _ _ => Mo_pJ fun _ _ => Mo_keep
  | lsub => dsimp only [stp]; exact Mo_pJ fun _ _ => Mo_pJ fun _ _ => Mo_keep
  | lmul => dsimp only [stp]; exact Mo_pJ fun _ _ => Mo_pJ fun _ _ => Mo_keep
  | land => dsimp only [stp]; exact Mo_pJ fun _ _ => Mo_pJ fun _ _ => Mo_keep
  | lor => dsimp only [stp]; exact Mo_pJ fun _ _ => Mo_pJ fun _ _ => Mo_keep
  | lcmp => dsimp only [stp]; exact Mo_pJ fun _ _ => Mo_pJ fun _ _ => Mo_keep
  | lshl => dsimp only [stp]; exact Mo_pI fun _ _ => Mo_pJ fun _ _ => Mo_keep
  | lshr => dsimp only [stp]; exact Mo_pI fun _ _ => Mo_pJ fun _ _ => Mo_keep
  | lushr => dsimp only [stp]; exact Mo_pI fun _ _ => Mo_pJ fun _ _ => Mo_keep
  | i2l => dsimp only [stp]; exact Mo_pI fun _ _ => Mo_keep
  | l2i => dsimp only [stp]; exact Mo_pJ fun _ _ => Mo_keep
  | i2b => dsimp only [stp]; exact Mo_pI fun _ _ => Mo_keep
  | dup => dsimp only [stp]; exact Mo_p1 fun _ _ => Mo_keep
  | pop => dsimp only [stp]; exact Mo_p1 fun _ _ => Mo_keep
  | dup_x1 => dsimp only [stp]; exact Mo_p1 fun _ _ => Mo_p1 fun _ _ => Mo_keep
  | dup_x2 => dsimp only [stp]; exact Mo_p1 fun _ _ => Mo_p1 fun _ _ => Mo_p1 fun _ _ => Mo_keep
  | dup2 => dsimp only [stp]; exact Mo_p1 fun _ _ => Mo_p1 fun _ _ => Mo_keep
  | goto off => dsimp only [stp]; exact Mo_n1 fun _ => Mo_keep
  | ifCond c off => dsimp only [stp]; exact Mo_n1 fun _ => Mo_pI fun _ _ => Mo_keep
  | if_icmp c off => dsimp only [stp]; exact Mo_n1 fun _ => Mo_pI fun _ _ => Mo_pI fun _ _ => Mo_keep
  | ifnull off => dsimp only [stp]; exact Mo_n1 fun _ => Mo_pQ fun _ _ => Mo_keep
  | ifnonnull off => dsimp only [stp]; exact Mo_n1 fun _ => Mo_pQ fun _ _ => Mo_keep
  | if_acmp c off => dsimp only [stp]; exact Mo_n1 fun _ => Mo_pQ fun _ _ => Mo_pQ fun _ _ => Mo_keep
  | tableswitch d lo hi offs => dsimp only [stp]; exact Mo_pI fun _ _ => Mo_ite (Mo_n1 fun _ => Mo_keep) (Mo_bd fun _ => Mo_keep)
  | getfield i => dsimp only [stp]; exact Mo_n3 fun _ _ => Mo_pR fun _ _ => Mo_oI fun _ _ => Mo_if (Mo_bd fun _ => Mo_keep)
  | putfield i =>
    dsimp only [stp]
    refine Mo_n3 fun _ _ => ?_
    split
    · exact Mo_pR fun _ _ => Mo_oI fun _ _ => Mo_if (by split; exact Mo_if Mo_put; exact Mo_none)
    · exact Mo_none
  | arraylength => dsimp only [stp]; exact Mo_pR fun _ _ => Mo_ite Mo_keep (Mo_aI fun _ _ _ => Mo_keep)
  | iaload => dsimp only [stp]; exact Mo_pI fun _ _ => Mo_pR fun _ _ => Mo_ite (Mo_bI Mo_keep) (Mo_aI fun _ _ _ => by split; exact Mo_bI Mo_keep; exact Mo_none)
  | laload => dsimp only [stp]; exact Mo_pI fun _ _ => Mo_pR fun _ _ => Mo_aI fun _ _ _ => by split; exact Mo_bI Mo_keep; exact Mo_none
  | baload => dsimp only [stp]; exact Mo_pI fun _ _ => Mo_pR fun _ _ => Mo_aI fun _ _ _ => by split; exact Mo_bI Mo_keep; exact Mo_bI Mo_keep; exact Mo_none
  | aaload => dsimp only [stp]; exact Mo_pI fun _ _ => Mo_pR fun _ _ => Mo_aI fun _ _ _ => by split; exact Mo_bI Mo_keep; exact Mo_bI Mo_keep; exact Mo_none
  | iastore => dsimp only [stp]; exact Mo_pI fun _ _ => Mo_pI fun _ _ => Mo_pR fun _ _ => Mo_aI fun _ _ _ => by split; exact Mo_bI Mo_put; exact Mo_none
  | lastore => dsimp only [stp]; exact Mo_pJ fun _ _ => Mo_pI fun _ _ => Mo_pR fun _ _ => Mo_aI fun _ _ _ => by split; exact Mo_bI Mo_put; exact Mo_none
  | bastore => dsimp only [stp]; exact Mo_pI fun _ _ => Mo_pI fun _ _ => Mo_pR fun _ _ => Mo_aI fun _ _ _ => by split; exact Mo_bI Mo_put; exact Mo_bI Mo_put; exact Mo_none
  | aastore =>
    dsimp only [stp]
    refine Mo_pQ fun _ _ => Mo_pI fun _ _ => Mo_pR fun _ _ => Mo_aI fun _ _ _ => ?_
    split
    · exact Mo_bI (by split; exact Mo_put; exact Mo_oI fun _ _ => Mo_if Mo_put)
    · exact Mo_none
  | newarray at_ => dsimp only [stp]; exact Mo_pI fun _ _ => by split; exact Mo_if Mo_new; exact Mo_none
  | anewarray i => dsimp only [stp]; exact Mo_n1 fun _ => Mo_pI fun _ _ => by split; exact Mo_if Mo_new; exact Mo_none
  | new i => dsimp only [stp]; exact Mo_n1 fun _ => by split; exact Mo_new; exact Mo_none
  | iconst n => exact Mo_keep
  | bipush n => exact Mo_keep
  | sipush n => exact Mo_keep
  | lconst n => exact Mo_keep
  | aconst_null => exact Mo_keep
  | _ => exact fun z q => by cases q
theorem stp_mono {sb sL : Nat} {sx : Nat → Int32} {nL : Nat} {ins : Instr} {nx : Nat} {ri : List Nat} {lv : List (Option Value)} {st : List Value} {h : AH} {z : SR} (hs : stp sb sL sx nL ins nx ri lv st h = some z) : h.1 ≤ z.2.2.2.1 ∧ h.2.1 ≤ z.2.2.2.2.1 := stp_mono0 ins z hs
end
section
/-! the methods: name, bytes, locals, what is returned, handlers, instructions with their links -/
/-- TapeVault.<init>()V -/
def mi_0 : MI := (⟨"TapeVault", "<init>", "()V"⟩, prog_1_method_1_code, 1, (none), [], [
  (0, .aload_n 0, 1, []), (1, .invokespecial 1, 4, [10, 63, 64, 65]), (4, .aload_n 0, 5, []), (5, .new 7, 8, [1, 66]), (8, .dup, 9, []), (9, .invokespecial 9, 12, [5, 0, 1, 68, 69, 41, 70]), 
  (12, .putfield 10, 15, [48, 0, 0]), (15, .aload_n 0, 16, []), (16, .new 16, 19, [2, 89]), (19, .dup, 20, []), (20, .invokespecial 18, 23, [5, 0, 3, 91, 92, 42, 93]), (23, .putfield 19, 26, [49, 0, 1]), 
  (26, .aload_n 0, 27, []), (27, .new 23, 30, [3, 115]), (30, .dup, 31, []), (31, .aload_n 0, 32, []), (32, .getfield 10, 35, [48, 0, 0]), (35, .aload_n 0, 36, []), (36, .getfield 19, 39, [49, 0, 1]), 
  (39, .invokespecial 25, 42, [4, 2, 4, 117, 118, 43, 119]), (42, .putfield 28, 45, [50, 0, 2]), (45, .aload_n 0, 46, []), (46, .new 32, 49, [4, 128]), (49, .dup, 50, []), (50, .aload_n 0, 51, []), 
  (51, .getfield 19, 54, [49, 0, 1]), (54, .invokespecial 34, 57, [4, 1, 5, 130, 131, 44, 132]), (57, .putfield 37, 60, [51, 0, 3]), (60, .aload_n 0, 61, []), (61, .bipush 100, 63, []), 
  (63, .anewarray 41, 66, [5, 164, 165]), (66, .putfield 43, 69, [52, 0, 4]), (69, .aload_n 0, 70, []), (70, .bipush 64, 72, []), (72, .invokevirtual 47, 75, [2, 1, 6, 0, 166, 168, 0, 39, 169]), (75, .return_, 76, [])])
/-- TapeVault$Tree.<init>()V -/
def mi_1 : MI := (⟨"TapeVault$Tree", "<init>", "()V"⟩, prog_5_method_1_code, 1, (none), [], [
  (0, .aload_n 0, 1, []), (1, .invokespecial 3, 4, [5, 0, 2, 71, 72, 40, 73]), (4, .aload_n 0, 5, []), (5, .sipush 256, 8, []), (8, .anewarray 9, 11, [4, 75, 76]), (11, .putfield 11, 14, [0, 1, 0]), (14, .return_, 15, [])])
/-- TapeVault$View.<init>()V -/
def mi_2 : MI := (⟨"TapeVault$View", "<init>", "()V"⟩, prog_6_method_1_code, 1, (none), [], [
  (0, .aload_n 0, 1, []), (1, .invokespecial 1, 4, [10, 74, 64, 65]), (4, .return_, 5, [])])
/-- TapeVault$Volumes.<init>()V -/
def mi_3 : MI := (⟨"TapeVault$Volumes", "<init>", "()V"⟩, prog_7_method_1_code, 1, (none), [], [
  (0, .aload_n 0, 1, []), (1, .invokespecial 3, 4, [10, 94, 64, 65]), (4, .aload_n 0, 5, []), (5, .sipush 128, 8, []), (8, .newarray .long, 10, []), (10, .putfield 9, 13, [5, 2, 0]), (13, .aload_n 0, 14, []), 
  (14, .bipush 16, 16, []), (16, .newarray .byte, 18, []), (18, .putfield 15, 21, [6, 2, 1]), (21, .aload_n 0, 22, []), (22, .bipush 64, 24, []), (24, .putfield 19, 27, [7, 2, 2]), (27, .return_, 28, [])])
/-- TapeVault$Writer.<init>(LTapeVault$Tree;LTapeVault$Volumes;)V -/
def mi_4 : MI := (⟨"TapeVault$Writer", "<init>", "(LTapeVault$Tree;LTapeVault$Volumes;)V"⟩, prog_8_method_1_code, 3, (none), [], [
  (0, .aload_n 0, 1, []), (1, .invokespecial 3, 4, [10, 120, 64, 65]), (4, .aload_n 0, 5, []), (5, .aload_n 1, 6, []), (6, .putfield 9, 9, [12, 3, 0]), (9, .aload_n 0, 10, []), (10, .aload_n 2, 11, []), 
  (11, .putfield 15, 14, [13, 3, 1]), (14, .return_, 15, [])])
/-- TapeVault$Restored.<init>(LTapeVault$Volumes;)V -/
def mi_5 : MI := (⟨"TapeVault$Restored", "<init>", "(LTapeVault$Volumes;)V"⟩, prog_4_method_1_code, 2, (none), [], [
  (0, .aload_n 0, 1, []), (1, .invokespecial 3, 4, [5, 0, 2, 133, 72, 40, 73]), (4, .aload_n 0, 5, []), (5, .sipush 256, 8, []), (8, .newarray .int, 10, []), (10, .putfield 9, 13, [15, 4, 1]), (13, .aload_n 0, 14, []), 
  (14, .sipush 256, 17, []), (17, .newarray .int, 19, []), (19, .putfield 15, 22, [16, 4, 2]), (22, .aload_n 0, 23, []), (23, .sipush 256, 26, []), (26, .newarray .boolean, 28, []), (28, .putfield 18, 31, [17, 4, 3]), 
  (31, .aload_n 0, 32, []), (32, .aload_n 1, 33, []), (33, .putfield 22, 36, [14, 4, 0]), (36, .return_, 37, [])])
/-- TapeVault.startAnew(I)V -/
def mi_6 : MI := (⟨"TapeVault", "startAnew", "(I)V"⟩, prog_1_method_16_code, 3, (none), [], [
  (0, .aload_n 0, 1, []), (1, .getfield 10, 4, [48, 0, 0]), (4, .invokevirtual 226, 7, [2, 0, 7, 1, 170, 171, 172, 41, 173]), (7, .aload_n 0, 8, []), (8, .getfield 19, 11, [49, 0, 1]), (11, .iload_n 1, 12, []), 
  (12, .invokevirtual 229, 15, [2, 1, 9, 2, 221, 222, 223, 42, 224]), (15, .aload_n 0, 16, []), (16, .getfield 37, 19, [51, 0, 3]), (19, .invokevirtual 231, 22, [2, 0, 10, 4, 228, 229, 230, 44, 231]), 
  (22, .iconst 0, 23, []), (23, .istore_n 2, 24, []), (24, .iload_n 2, 25, []), (25, .aload_n 0, 26, []), (26, .getfield 43, 29, [52, 0, 4]), (29, .arraylength, 30, []), (30, .if_icmp .ge 16, 33, [46]), 
  (33, .aload_n 0, 34, []), (34, .getfield 43, 37, [52, 0, 4]), (37, .iload_n 2, 38, []), (38, .aconst_null, 39, []), (39, .aastore, 40, []), (40, .iinc 2 1, 43, []), (43, .goto (-19), 46, [24]), (46, .aload_n 0, 47, []), 
  (47, .iconst 0, 48, []), (48, .putfield 121, 51, [53, 0, 5]), (51, .return_, 52, [])])
/-- TapeVault$Tree.clear()V -/
def mi_7 : MI := (⟨"TapeVault$Tree", "clear", "()V"⟩, prog_5_method_2_code, 2, (none), [], [
  (0, .iconst 0, 1, []), (1, .istore_n 1, 2, []), (2, .iload_n 1, 3, []), (3, .aload_n 0, 4, []), (4, .getfield 11, 7, [0, 1, 0]), (7, .arraylength, 8, []), (8, .if_icmp .ge 16, 11, [24]), (11, .aload_n 0, 12, []), 
  (12, .getfield 11, 15, [0, 1, 0]), (15, .iload_n 1, 16, []), (16, .aconst_null, 17, []), (17, .aastore, 18, []), (18, .iinc 1 1, 21, []), (21, .goto (-19), 24, [2]), (24, .aload_n 0, 25, []), 
  (25, .getfield 11, 28, [0, 1, 0]), (28, .iconst 0, 29, []), (29, .new 9, 32, [5, 75]), (32, .dup, 33, []), (33, .iconst 0, 34, []), (34, .iconst 2, 35, []), (35, .invokespecial 17, 38, [4, 2, 8, 175, 176, 45, 177]), 
  (38, .aastore, 39, []), (39, .aload_n 0, 40, []), (40, .iconst 1, 41, []), (41, .putfield 20, 44, [1, 1, 1]), (44, .aload_n 0, 45, []), (45, .iconst 0, 46, []), (46, .putfield 24, 49, [3, 1, 2]), (49, .return_, 50, [])])
/-- TapeVault$Node.<init>(II)V -/
def mi_8 : MI := (⟨"TapeVault$Node", "<init>", "(II)V"⟩, prog_3_method_1_code, 3, (none), [], [
  (0, .aload_n 0, 1, []), (1, .invokespecial 3, 4, [10, 178, 64, 65]), (4, .aload_n 0, 5, []), (5, .iload_n 1, 6, []), (6, .putfield 9, 9, [25, 5, 0]), (9, .aload_n 0, 10, []), (10, .iload_n 2, 11, []), 
  (11, .putfield 15, 14, [28, 5, 1]), (14, .return_, 15, [])])
/-- TapeVault$Volumes.clear(I)V -/
def mi_9 : MI := (⟨"TapeVault$Volumes", "clear", "(I)V"⟩, prog_7_method_2_code, 2, (none), [], [
  (0, .aload_n 0, 1, []), (1, .iload_n 1, 2, []), (2, .iconst 4, 3, []), (3, .invokestatic 23, 6, [11, 225, 226, 46, 227]), (6, .putfield 19, 9, [7, 2, 2]), (9, .aload_n 0, 10, []), (10, .iconst 0, 11, []), 
  (11, .putfield 29, 14, [8, 2, 3]), (14, .aload_n 0, 15, []), (15, .iconst 0, 16, []), (16, .putfield 32, 19, [10, 2, 4]), (19, .return_, 20, [])])
/-- TapeVault$Restored.clear()V -/
def mi_10 : MI := (⟨"TapeVault$Restored", "clear", "()V"⟩, prog_4_method_2_code, 2, (none), [], [
  (0, .aload_n 0, 1, []), (1, .iconst 0, 2, []), (2, .putfield 26, 5, [18, 4, 4]), (5, .aload_n 0, 6, []), (6, .iconst 0, 7, []), (7, .putfield 30, 10, [19, 4, 5]), (10, .aload_n 0, 11, []), (11, .iconst 0, 12, []), 
  (12, .putfield 34, 15, [21, 4, 6]), (15, .aload_n 0, 16, []), (16, .iconst 0, 17, []), (17, .putfield 37, 20, [23, 4, 7]), (20, .iconst 0, 21, []), (21, .istore_n 1, 22, []), (22, .iload_n 1, 23, []), 
  (23, .sipush 256, 26, []), (26, .if_icmp .ge 14, 29, [40]), (29, .aload_n 0, 30, []), (30, .iload_n 1, 31, []), (31, .invokevirtual 40, 34, [2, 1, 11, 4, 232, 234, 1, 44, 235]), (34, .iinc 1 1, 37, []), 
  (37, .goto (-15), 40, [22]), (40, .return_, 41, [])])
/-- TapeVault$Restored.setNone(I)V -/
def mi_11 : MI := (⟨"TapeVault$Restored", "setNone", "(I)V"⟩, prog_4_method_3_code, 2, (none), [], [
  (0, .aload_n 0, 1, []), (1, .getfield 9, 4, [15, 4, 1]), (4, .iload_n 1, 5, []), (5, .iconst (-1), 6, []), (6, .iastore, 7, []), (7, .aload_n 0, 8, []), (8, .getfield 15, 11, [16, 4, 2]), (11, .iload_n 1, 12, []), 
  (12, .iconst 0, 13, []), (13, .iastore, 14, []), (14, .aload_n 0, 15, []), (15, .getfield 18, 18, [17, 4, 3]), (18, .iload_n 1, 19, []), (19, .iconst 0, 20, []), (20, .bastore, 21, []), (21, .return_, 22, [])])
/-- TapeVaultLaw.begin(LTapeVault;I)I -/
def mi_12 : MI := (⟨"TapeVaultLaw", "begin", "(LTapeVault;I)I"⟩, method_3_code, 3, (some FieldType.int), [(0, 5, 8, 13)], [
  (0, .aload_n 0, 1, []), (1, .iload_n 1, 2, []), (2, .invokevirtual 7, 5, [9, 1, 13, 0, 259, 260, 261, 39, 262]), (5, .goto 6, 8, [11]), (8, .astore_n 2, 9, []), (9, .iconst 1, 10, []), (10, .ireturn, 11, []), 
  (11, .iconst 0, 12, []), (12, .ireturn, 13, [])])
/-- TapeVault.begin(I)V -/
def mi_13 : MI := (⟨"TapeVault", "begin", "(I)V"⟩, prog_1_method_2_code, 2, (none), [], [
  (0, .iload_n 1, 1, []), (1, .iconst 4, 2, []), (2, .if_icmp .lt 10, 5, [12]), (5, .iload_n 1, 6, []), (6, .sipush 1000, 9, []), (9, .if_icmp .le 11, 12, [20]), (12, .new 51, 15, [50, 0, 53, 263]), 
  (20, .aload_n 0, 21, []), (21, .iload_n 1, 22, []), (22, .invokevirtual 47, 25, [2, 1, 6, 0, 166, 168, 0, 39, 169]), (25, .return_, 26, [])])
/-- TapeVaultLaw.make(LTapeVault;IIZ[J)I -/
def mi_14 : MI := (⟨"TapeVaultLaw", "make", "(LTapeVault;IIZ[J)I"⟩, method_4_code, 6, (some FieldType.int), [(0, 12, 15, 13), (0, 12, 19, 19), (0, 12, 23, 21)], [
  (0, .aload 4, 2, []), (2, .iconst 0, 3, []), (3, .aload_n 0, 4, []), (4, .iload_n 1, 5, []), (5, .iload_n 2, 6, []), (6, .iload_n 3, 7, []), (7, .invokevirtual 15, 10, [9, 3, 15, 0, 332, 333, 334, 39, 335]), 
  (10, .i2l, 11, []), (11, .lastore, 12, []), (12, .goto 15, 15, [27]), (15, .astore 5, 17, []), (17, .iconst 1, 18, []), (18, .ireturn, 19, []), (19, .astore 5, 21, []), (21, .iconst 2, 22, []), (22, .ireturn, 23, []), 
  (23, .astore 5, 25, []), (25, .iconst 3, 26, []), (26, .ireturn, 27, []), (27, .iconst 0, 28, []), (28, .ireturn, 29, [])])
/-- TapeVault.make(IIZ)I -/
def mi_15 : MI := (⟨"TapeVault", "make", "(IIZ)I"⟩, prog_1_method_3_code, 6, (some FieldType.int), [], [
  (0, .aload_n 0, 1, []), (1, .getfield 10, 4, [48, 0, 0]), (4, .iload_n 1, 5, []), (5, .invokevirtual 54, 8, [2, 1, 16, 1, 336, 337, 338, 41, 339]), (8, .astore 4, 10, []), (10, .aload 4, 12, []), 
  (12, .ifnull 10, 15, [22]), (15, .iload_n 2, 16, []), (16, .invokestatic 58, 19, [0, 1, 19, 347, 348, 39, 349]), (19, .ifCond .ne 11, 22, [30]), (22, .new 51, 25, [50, 0, 53, 263]), (30, .aload 4, 32, []), 
  (32, .iload_n 2, 33, []), (33, .invokevirtual 62, 36, [2, 1, 20, 5, 350, 351, 352, 45, 353]), (36, .ifnull 11, 39, [47]), (39, .new 67, 42, [50, 1, 69, 354]), (47, .aload_n 0, 48, []), (48, .getfield 10, 51, [48, 0, 0]), 
  (51, .invokevirtual 70, 54, [2, 0, 21, 1, 369, 370, 371, 41, 372]), (54, .istore 5, 56, []), (56, .iload 5, 58, []), (58, .iconst (-1), 59, []), (59, .if_icmp .ne 11, 62, [70]), (62, .new 74, 65, [50, 2, 76, 373]), 
  (70, .aload_n 0, 71, []), (71, .getfield 10, 74, [48, 0, 0]), (74, .iload 5, 76, []), (76, .iload_n 3, 77, []), (77, .ifCond .eq 7, 80, [84]), (80, .iconst 2, 81, []), (81, .goto 4, 84, [85]), (84, .iconst 1, 85, []), 
  (85, .aload 4, 87, []), (87, .iload_n 2, 88, []), (88, .invokevirtual 77, 91, [2, 4, 22, 1, 388, 389, 390, 41, 391]), (91, .iload 5, 93, []), (93, .ireturn, 94, [])])
/-- TapeVault$Tree.directoryAt(I)LTapeVault$Node; -/
def mi_16 : MI := (⟨"TapeVault$Tree", "directoryAt", "(I)LTapeVault$Node;"⟩, prog_5_method_5_code, 3, (some (FieldType.object "TapeVault$Node")), [], [
  (0, .aload_n 0, 1, []), (1, .iload_n 1, 2, []), (2, .invokevirtual 31, 5, [2, 1, 17, 1, 340, 341, 342, 41, 343]), (5, .astore_n 2, 6, []), (6, .aload_n 2, 7, []), (7, .ifnull 15, 10, [22]), (10, .aload_n 2, 11, []), 
  (11, .getfield 35, 14, [29, 5, 1]), (14, .iconst 2, 15, []), (15, .if_icmp .ne 7, 18, [22]), (18, .aload_n 2, 19, []), (19, .goto 4, 22, [23]), (22, .aconst_null, 23, []), (23, .areturn, 24, [])])
/-- TapeVault$Tree.nodeAt(I)LTapeVault$Node; -/
def mi_17 : MI := (⟨"TapeVault$Tree", "nodeAt", "(I)LTapeVault$Node;"⟩, prog_5_method_3_code, 2, (some (FieldType.object "TapeVault$Node")), [], [
  (0, .iload_n 1, 1, []), (1, .invokestatic 27, 4, [1, 1, 18, 344, 345, 39, 346]), (4, .ifCond .eq 12, 7, [16]), (7, .aload_n 0, 8, []), (8, .getfield 11, 11, [0, 1, 0]), (11, .iload_n 1, 12, []), (12, .aaload, 13, []), 
  (13, .goto 4, 16, [17]), (16, .aconst_null, 17, []), (17, .areturn, 18, [])])
/-- TapeVault.isNumber(I)Z -/
def mi_18 : MI := (⟨"TapeVault", "isNumber", "(I)Z"⟩, prog_1_method_20_code, 1, (some FieldType.boolean), [], [
  (0, .iload_n 0, 1, []), (1, .ifCond .lt 14, 4, [15]), (4, .iload_n 0, 5, []), (5, .sipush 256, 8, []), (8, .if_icmp .ge 7, 11, [15]), (11, .iconst 1, 12, []), (12, .goto 4, 15, [16]), (15, .iconst 0, 16, []), 
  (16, .ireturn, 17, [])])
/-- TapeVault.isName(I)Z -/
def mi_19 : MI := (⟨"TapeVault", "isName", "(I)Z"⟩, prog_1_method_19_code, 1, (some FieldType.boolean), [], [
  (0, .iload_n 0, 1, []), (1, .iconst 1, 2, []), (2, .if_icmp .lt 14, 5, [16]), (5, .iload_n 0, 6, []), (6, .sipush 30000, 9, []), (9, .if_icmp .gt 7, 12, [16]), (12, .iconst 1, 13, []), (13, .goto 4, 16, [17]), 
  (16, .iconst 0, 17, []), (17, .ireturn, 18, [])])
/-- TapeVault$Node.childNamed(I)LTapeVault$Node; -/
def mi_20 : MI := (⟨"TapeVault$Node", "childNamed", "(I)LTapeVault$Node;"⟩, prog_3_method_5_code, 3, (some (FieldType.object "TapeVault$Node")), [], [
  (0, .aload_n 0, 1, []), (1, .getfield 22, 4, [44, 5, 7]), (4, .astore_n 2, 5, []), (5, .aload_n 2, 6, []), (6, .ifnull 21, 9, [27]), (9, .aload_n 2, 10, []), (10, .getfield 25, 13, [34, 5, 3]), (13, .iload_n 1, 14, []), 
  (14, .if_icmp .ne 5, 17, [19]), (17, .aload_n 2, 18, []), (18, .areturn, 19, []), (19, .aload_n 2, 20, []), (20, .getfield 28, 23, [46, 5, 8]), (23, .astore_n 2, 24, []), (24, .goto (-19), 27, [5]), 
  (27, .aconst_null, 28, []), (28, .areturn, 29, [])])
/-- TapeVault$Tree.leastFree()I -/
def mi_21 : MI := (⟨"TapeVault$Tree", "leastFree", "()I"⟩, prog_5_method_6_code, 2, (some FieldType.int), [], [
  (0, .iconst 0, 1, []), (1, .istore_n 1, 2, []), (2, .iload_n 1, 3, []), (3, .aload_n 0, 4, []), (4, .getfield 11, 7, [0, 1, 0]), (7, .arraylength, 8, []), (8, .if_icmp .ge 20, 11, [28]), (11, .aload_n 0, 12, []), 
  (12, .getfield 11, 15, [0, 1, 0]), (15, .iload_n 1, 16, []), (16, .aaload, 17, []), (17, .ifnonnull 5, 20, [22]), (20, .iload_n 1, 21, []), (21, .ireturn, 22, []), (22, .iinc 1 1, 25, []), (25, .goto (-23), 28, [2]), 
  (28, .iconst (-1), 29, []), (29, .ireturn, 30, [])])
/-- TapeVault$Tree.add(IILTapeVault$Node;I)V -/
def mi_22 : MI := (⟨"TapeVault$Tree", "add", "(IILTapeVault$Node;I)V"⟩, prog_5_method_7_code, 6, (none), [], [
  (0, .aload_n 0, 1, []), (1, .dup, 2, []), (2, .getfield 24, 5, [3, 1, 2]), (5, .iconst 1, 6, []), (6, .iadd, 7, []), (7, .putfield 24, 10, [3, 1, 2]), (10, .new 9, 13, [5, 75]), (13, .dup, 14, []), 
  (14, .iload_n 1, 15, []), (15, .iload_n 2, 16, []), (16, .invokespecial 17, 19, [4, 2, 8, 175, 176, 45, 177]), (19, .astore 5, 21, []), (21, .aload 5, 23, []), (23, .aload_n 3, 24, []), (24, .iload 4, 26, []), 
  (26, .invokevirtual 38, 29, [2, 2, 23, 5, 392, 393, 394, 45, 395]), (29, .aload 5, 31, []), (31, .aload_n 0, 32, []), (32, .getfield 24, 35, [3, 1, 2]), (35, .putfield 42, 38, [42, 5, 5]), (38, .aload_n 3, 39, []), 
  (39, .aload_n 0, 40, []), (40, .getfield 24, 43, [3, 1, 2]), (43, .putfield 42, 46, [42, 5, 5]), (46, .aload_n 0, 47, []), (47, .getfield 11, 50, [0, 1, 0]), (50, .iload_n 1, 51, []), (51, .aload 5, 53, []), 
  (53, .aastore, 54, []), (54, .aload_n 0, 55, []), (55, .dup, 56, []), (56, .getfield 20, 59, [1, 1, 1]), (59, .iconst 1, 60, []), (60, .iadd, 61, []), (61, .putfield 20, 64, [1, 1, 1]), (64, .return_, 65, [])])
/-- TapeVault$Node.enter(LTapeVault$Node;I)V -/
def mi_23 : MI := (⟨"TapeVault$Node", "enter", "(LTapeVault$Node;I)V"⟩, prog_3_method_9_code, 5, (none), [], [
  (0, .aload_n 0, 1, []), (1, .aload_n 1, 2, []), (2, .putfield 18, 5, [32, 5, 2]), (5, .aload_n 0, 6, []), (6, .iload_n 2, 7, []), (7, .putfield 25, 10, [34, 5, 3]), (10, .aconst_null, 11, []), (11, .astore_n 3, 12, []), 
  (12, .aload_n 1, 13, []), (13, .getfield 22, 16, [44, 5, 7]), (16, .astore 4, 18, []), (18, .aload 4, 20, []), (20, .ifnull 25, 23, [45]), (23, .aload 4, 25, []), (25, .getfield 25, 28, [34, 5, 3]), 
  (28, .iload_n 2, 29, []), (29, .if_icmp .ge 16, 32, [45]), (32, .aload 4, 34, []), (34, .astore_n 3, 35, []), (35, .aload 4, 37, []), (37, .getfield 28, 40, [46, 5, 8]), (40, .astore 4, 42, []), 
  (42, .goto (-24), 45, [18]), (45, .aload_n 0, 46, []), (46, .aload 4, 48, []), (48, .putfield 28, 51, [46, 5, 8]), (51, .aload_n 3, 52, []), (52, .ifnonnull 11, 55, [63]), (55, .aload_n 1, 56, []), 
  (56, .aload_n 0, 57, []), (57, .putfield 22, 60, [44, 5, 7]), (60, .goto 8, 63, [68]), (63, .aload_n 3, 64, []), (64, .aload_n 0, 65, []), (65, .putfield 28, 68, [46, 5, 8]), (68, .aload_n 1, 69, []), (69, .dup, 70, []), 
  (70, .getfield 35, 73, [39, 5, 4]), (73, .iconst 1, 74, []), (74, .iadd, 75, []), (75, .putfield 35, 78, [39, 5, 4]), (78, .return_, 79, [])])
/-- TapeVaultLaw.write(LTapeVault;IIJ[J)I -/
def mi_24 : MI := (⟨"TapeVaultLaw", "write", "(LTapeVault;IIJ[J)I"⟩, method_5_code, 7, (some FieldType.int), [(0, 12, 15, 13), (0, 12, 19, 21)], [
  (0, .aload 5, 2, []), (2, .iconst 0, 3, []), (3, .aload_n 0, 4, []), (4, .iload_n 1, 5, []), (5, .iload_n 2, 6, []), (6, .lload_n 3, 7, []), (7, .invokevirtual 23, 10, [9, 3, 25, 0, 399, 400, 401, 39, 402]), 
  (10, .i2l, 11, []), (11, .lastore, 12, []), (12, .goto 11, 15, [23]), (15, .astore 6, 17, []), (17, .iconst 1, 18, []), (18, .ireturn, 19, []), (19, .astore 6, 21, []), (21, .iconst 2, 22, []), (22, .ireturn, 23, []), 
  (23, .iconst 0, 24, []), (24, .ireturn, 25, [])])
/-- TapeVault.write(IIJ)I -/
def mi_25 : MI := (⟨"TapeVault", "write", "(IIJ)I"⟩, prog_1_method_4_code, 6, (some FieldType.int), [], [
  (0, .aload_n 0, 1, []), (1, .getfield 10, 4, [48, 0, 0]), (4, .iload_n 1, 5, []), (5, .invokevirtual 81, 8, [2, 1, 26, 1, 403, 404, 405, 41, 406]), (8, .astore 5, 10, []), (10, .aload 5, 12, []), 
  (12, .ifnonnull 11, 15, [23]), (15, .new 51, 18, [50, 0, 53, 263]), (23, .iload_n 2, 24, []), (24, .ifCond .lt 19, 27, [43]), (27, .iload_n 2, 28, []), (28, .aload 5, 30, []), (30, .getfield 84, 33, [37, 5, 4]), 
  (33, .if_icmp .gt 10, 36, [43]), (36, .iload_n 2, 37, []), (37, .sipush 504, 40, []), (40, .if_icmp .le 11, 43, [51]), (43, .new 74, 46, [50, 2, 76, 373]), (51, .aload_n 0, 52, []), (52, .getfield 10, 55, [48, 0, 0]), 
  (55, .aload 5, 57, []), (57, .iload_n 2, 58, []), (58, .lload_n 3, 59, []), (59, .invokevirtual 88, 62, [2, 3, 27, 1, 407, 408, 409, 41, 410]), (62, .aload 5, 64, []), (64, .getfield 84, 67, [37, 5, 4]), 
  (67, .ireturn, 68, [])])
/-- TapeVault$Tree.fileAt(I)LTapeVault$Node; -/
def mi_26 : MI := (⟨"TapeVault$Tree", "fileAt", "(I)LTapeVault$Node;"⟩, prog_5_method_4_code, 3, (some (FieldType.object "TapeVault$Node")), [], [
  (0, .aload_n 0, 1, []), (1, .iload_n 1, 2, []), (2, .invokevirtual 31, 5, [2, 1, 17, 1, 340, 341, 342, 41, 343]), (5, .astore_n 2, 6, []), (6, .aload_n 2, 7, []), (7, .ifnull 15, 10, [22]), (10, .aload_n 2, 11, []), 
  (11, .getfield 35, 14, [29, 5, 1]), (14, .iconst 1, 15, []), (15, .if_icmp .ne 7, 18, [22]), (18, .aload_n 2, 19, []), (19, .goto 4, 22, [23]), (22, .aconst_null, 23, []), (23, .areturn, 24, [])])
/-- TapeVault$Tree.overwrite(LTapeVault$Node;IJ)V -/
def mi_27 : MI := (⟨"TapeVault$Tree", "overwrite", "(LTapeVault$Node;IJ)V"⟩, prog_5_method_8_code, 5, (none), [], [
  (0, .aload_n 0, 1, []), (1, .dup, 2, []), (2, .getfield 24, 5, [3, 1, 2]), (5, .iconst 1, 6, []), (6, .iadd, 7, []), (7, .putfield 24, 10, [3, 1, 2]), (10, .aload_n 1, 11, []), (11, .iload_n 2, 12, []), 
  (12, .lload_n 3, 13, []), (13, .invokevirtual 45, 16, [2, 2, 28, 5, 411, 412, 413, 45, 414]), (16, .aload_n 1, 17, []), (17, .aload_n 0, 18, []), (18, .getfield 24, 21, [3, 1, 2]), (21, .putfield 42, 24, [42, 5, 5]), 
  (24, .return_, 25, [])])
/-- TapeVault$Node.setOctets(IJ)V -/
def mi_28 : MI := (⟨"TapeVault$Node", "setOctets", "(IJ)V"⟩, prog_3_method_7_code, 5, (none), [], [
  (0, .aload_n 0, 1, []), (1, .getfield 31, 4, [43, 5, 6]), (4, .ifnonnull 12, 7, [16]), (7, .aload_n 0, 8, []), (8, .sipush 512, 11, []), (11, .newarray .byte, 13, []), (13, .putfield 31, 16, [43, 5, 6]), 
  (16, .iconst 0, 17, []), (17, .istore 4, 19, []), (19, .iload 4, 21, []), (21, .bipush 8, 23, []), (23, .if_icmp .ge 42, 26, [65]), (26, .iload_n 1, 27, []), (27, .iload 4, 29, []), (29, .iadd, 30, []), 
  (30, .aload_n 0, 31, []), (31, .getfield 31, 34, [43, 5, 6]), (34, .arraylength, 35, []), (35, .if_icmp .ge 30, 38, [65]), (38, .aload_n 0, 39, []), (39, .getfield 31, 42, [43, 5, 6]), (42, .iload_n 1, 43, []), 
  (43, .iload 4, 45, []), (45, .iadd, 46, []), (46, .lload_n 2, 47, []), (47, .bipush 8, 49, []), (49, .bipush 7, 51, []), (51, .iload 4, 53, []), (53, .isub, 54, []), (54, .imul, 55, []), (55, .lushr, 56, []), 
  (56, .l2i, 57, []), (57, .i2b, 58, []), (58, .bastore, 59, []), (59, .iinc 4 1, 62, []), (62, .goto (-43), 65, [19]), (65, .aload_n 0, 66, []), (66, .aload_n 0, 67, []), (67, .getfield 35, 70, [39, 5, 4]), 
  (70, .iload_n 1, 71, []), (71, .bipush 8, 73, []), (73, .iadd, 74, []), (74, .invokestatic 38, 77, [11, 415, 226, 46, 227]), (77, .putfield 35, 80, [39, 5, 4]), (80, .return_, 81, [])])
/-- TapeVaultLaw.cut(LTapeVault;II)I -/
def mi_29 : MI := (⟨"TapeVaultLaw", "cut", "(LTapeVault;II)I"⟩, method_6_code, 4, (some FieldType.int), [(0, 6, 9, 13), (0, 6, 12, 21)], [
  (0, .aload_n 0, 1, []), (1, .iload_n 1, 2, []), (2, .iload_n 2, 3, []), (3, .invokevirtual 27, 6, [9, 2, 30, 0, 419, 420, 421, 39, 422]), (6, .goto 9, 9, [15]), (9, .astore_n 3, 10, []), (10, .iconst 1, 11, []), 
  (11, .ireturn, 12, []), (12, .astore_n 3, 13, []), (13, .iconst 2, 14, []), (14, .ireturn, 15, []), (15, .iconst 0, 16, []), (16, .ireturn, 17, [])])
/-- TapeVault.cut(II)V -/
def mi_30 : MI := (⟨"TapeVault", "cut", "(II)V"⟩, prog_1_method_5_code, 4, (none), [], [
  (0, .aload_n 0, 1, []), (1, .getfield 10, 4, [48, 0, 0]), (4, .iload_n 1, 5, []), (5, .invokevirtual 81, 8, [2, 1, 26, 1, 403, 404, 405, 41, 406]), (8, .astore_n 3, 9, []), (9, .aload_n 3, 10, []), 
  (10, .ifnonnull 11, 13, [21]), (13, .new 51, 16, [50, 0, 53, 263]), (21, .iload_n 2, 22, []), (22, .ifCond .lt 11, 25, [33]), (25, .iload_n 2, 26, []), (26, .aload_n 3, 27, []), (27, .getfield 84, 30, [37, 5, 4]), 
  (30, .if_icmp .le 11, 33, [41]), (33, .new 74, 36, [50, 2, 76, 373]), (41, .aload_n 0, 42, []), (42, .getfield 10, 45, [48, 0, 0]), (45, .aload_n 3, 46, []), (46, .iload_n 2, 47, []), 
  (47, .invokevirtual 92, 50, [2, 2, 31, 1, 423, 424, 425, 41, 426]), (50, .return_, 51, [])])
/-- TapeVault$Tree.shorten(LTapeVault$Node;I)V -/
def mi_31 : MI := (⟨"TapeVault$Tree", "shorten", "(LTapeVault$Node;I)V"⟩, prog_5_method_9_code, 3, (none), [], [
  (0, .aload_n 0, 1, []), (1, .dup, 2, []), (2, .getfield 24, 5, [3, 1, 2]), (5, .iconst 1, 6, []), (6, .iadd, 7, []), (7, .putfield 24, 10, [3, 1, 2]), (10, .aload_n 1, 11, []), (11, .iload_n 2, 12, []), 
  (12, .putfield 49, 15, [40, 5, 4]), (15, .aload_n 1, 16, []), (16, .aload_n 0, 17, []), (17, .getfield 24, 20, [3, 1, 2]), (20, .putfield 42, 23, [42, 5, 5]), (23, .return_, 24, [])])
/-- TapeVaultLaw.move(LTapeVault;III)I -/
def mi_32 : MI := (⟨"TapeVaultLaw", "move", "(LTapeVault;III)I"⟩, method_7_code, 5, (some FieldType.int), [(0, 7, 10, 13), (0, 7, 14, 19), (0, 7, 18, 35)], [
  (0, .aload_n 0, 1, []), (1, .iload_n 1, 2, []), (2, .iload_n 2, 3, []), (3, .iload_n 3, 4, []), (4, .invokevirtual 31, 7, [9, 3, 33, 0, 431, 432, 433, 39, 434]), (7, .goto 15, 10, [22]), (10, .astore 4, 12, []), 
  (12, .iconst 1, 13, []), (13, .ireturn, 14, []), (14, .astore 4, 16, []), (16, .iconst 2, 17, []), (17, .ireturn, 18, []), (18, .astore 4, 20, []), (20, .iconst 3, 21, []), (21, .ireturn, 22, []), (22, .iconst 0, 23, []), 
  (23, .ireturn, 24, [])])
/-- TapeVault.move(III)V -/
def mi_33 : MI := (⟨"TapeVault", "move", "(III)V"⟩, prog_1_method_6_code, 7, (none), [], [
  (0, .aload_n 0, 1, []), (1, .getfield 10, 4, [48, 0, 0]), (4, .iload_n 1, 5, []), (5, .invokevirtual 96, 8, [2, 1, 17, 1, 435, 341, 342, 41, 343]), (8, .astore 4, 10, []), (10, .aload_n 0, 11, []), 
  (11, .getfield 10, 14, [48, 0, 0]), (14, .iload_n 2, 15, []), (15, .invokevirtual 54, 18, [2, 1, 16, 1, 336, 337, 338, 41, 339]), (18, .astore 5, 20, []), (20, .aload 4, 22, []), (22, .ifnull 23, 25, [45]), 
  (25, .aload 4, 27, []), (27, .invokevirtual 99, 30, [2, 0, 34, 5, 436, 437, 438, 45, 439]), (30, .ifCond .ne 15, 33, [45]), (33, .aload 5, 35, []), (35, .ifnull 10, 38, [45]), (38, .iload_n 3, 39, []), 
  (39, .invokestatic 58, 42, [0, 1, 19, 347, 348, 39, 349]), (42, .ifCond .ne 11, 45, [53]), (45, .new 51, 48, [50, 0, 53, 263]), (53, .aload 5, 55, []), (55, .iload_n 3, 56, []), 
  (56, .invokevirtual 62, 59, [2, 1, 20, 5, 350, 351, 352, 45, 353]), (59, .astore 6, 61, []), (61, .aload 6, 63, []), (63, .ifnull 18, 66, [81]), (66, .aload 6, 68, []), (68, .aload 4, 70, []), 
  (70, .if_acmp .eq 11, 73, [81]), (73, .new 67, 76, [50, 1, 69, 354]), (81, .aload 5, 83, []), (83, .aload 4, 85, []), (85, .invokevirtual 103, 88, [2, 1, 35, 5, 440, 441, 442, 45, 443]), (88, .ifCond .eq 11, 91, [99]), 
  (91, .new 107, 94, [50, 3, 109, 444]), (99, .aload_n 0, 100, []), (100, .getfield 10, 103, [48, 0, 0]), (103, .aload 4, 105, []), (105, .aload 5, 107, []), (107, .iload_n 3, 108, []), 
  (108, .invokevirtual 110, 111, [2, 3, 36, 1, 459, 460, 461, 41, 462]), (111, .return_, 112, [])])
/-- TapeVault$Node.isRoot()Z -/
def mi_34 : MI := (⟨"TapeVault$Node", "isRoot", "()Z"⟩, prog_3_method_2_code, 1, (some FieldType.boolean), [], [
  (0, .aload_n 0, 1, []), (1, .getfield 18, 4, [32, 5, 2]), (4, .ifnonnull 7, 7, [11]), (7, .iconst 1, 8, []), (8, .goto 4, 11, [12]), (11, .iconst 0, 12, []), (12, .ireturn, 13, [])])
/-- TapeVault$Node.isAtOrBelow(LTapeVault$Node;)Z -/
def mi_35 : MI := (⟨"TapeVault$Node", "isAtOrBelow", "(LTapeVault$Node;)Z"⟩, prog_3_method_4_code, 3, (some FieldType.boolean), [], [
  (0, .aload_n 0, 1, []), (1, .astore_n 2, 2, []), (2, .aload_n 2, 3, []), (3, .ifnull 18, 6, [21]), (6, .aload_n 2, 7, []), (7, .aload_n 1, 8, []), (8, .if_acmp .ne 5, 11, [13]), (11, .iconst 1, 12, []), 
  (12, .ireturn, 13, []), (13, .aload_n 2, 14, []), (14, .getfield 18, 17, [32, 5, 2]), (17, .astore_n 2, 18, []), (18, .goto (-16), 21, [2]), (21, .iconst 0, 22, []), (22, .ireturn, 23, [])])
/-- TapeVault$Tree.rehome(LTapeVault$Node;LTapeVault$Node;I)V -/
def mi_36 : MI := (⟨"TapeVault$Tree", "rehome", "(LTapeVault$Node;LTapeVault$Node;I)V"⟩, prog_5_method_10_code, 4, (none), [], [
  (0, .aload_n 0, 1, []), (1, .dup, 2, []), (2, .getfield 24, 5, [3, 1, 2]), (5, .iconst 1, 6, []), (6, .iadd, 7, []), (7, .putfield 24, 10, [3, 1, 2]), (10, .aload_n 0, 11, []), (11, .aload_n 1, 12, []), 
  (12, .invokevirtual 52, 15, [2, 1, 37, 1, 463, 465, 3, 41, 466]), (15, .aload_n 1, 16, []), (16, .aload_n 2, 17, []), (17, .iload_n 3, 18, []), (18, .invokevirtual 38, 21, [2, 2, 23, 5, 392, 393, 394, 45, 395]), 
  (21, .aload_n 1, 22, []), (22, .aload_n 0, 23, []), (23, .getfield 24, 26, [3, 1, 2]), (26, .putfield 42, 29, [42, 5, 5]), (29, .aload_n 2, 30, []), (30, .aload_n 0, 31, []), (31, .getfield 24, 34, [3, 1, 2]), 
  (34, .putfield 42, 37, [42, 5, 5]), (37, .return_, 38, [])])
/-- TapeVault$Tree.takeOut(LTapeVault$Node;)V -/
def mi_37 : MI := (⟨"TapeVault$Tree", "takeOut", "(LTapeVault$Node;)V"⟩, prog_5_method_12_code, 3, (none), [], [
  (0, .aload_n 1, 1, []), (1, .getfield 59, 4, [33, 5, 2]), (4, .astore_n 2, 5, []), (5, .aload_n 2, 6, []), (6, .ifnull 16, 9, [22]), (9, .aload_n 1, 10, []), (10, .aload_n 2, 11, []), 
  (11, .invokevirtual 63, 14, [2, 1, 38, 5, 467, 468, 469, 45, 470]), (14, .aload_n 2, 15, []), (15, .aload_n 0, 16, []), (16, .getfield 24, 19, [3, 1, 2]), (19, .putfield 42, 22, [42, 5, 5]), (22, .return_, 23, [])])
/-- TapeVault$Node.leave(LTapeVault$Node;)V -/
def mi_38 : MI := (⟨"TapeVault$Node", "leave", "(LTapeVault$Node;)V"⟩, prog_3_method_10_code, 4, (none), [], [
  (0, .aconst_null, 1, []), (1, .astore_n 2, 2, []), (2, .aload_n 1, 3, []), (3, .getfield 22, 6, [44, 5, 7]), (6, .astore_n 3, 7, []), (7, .aload_n 3, 8, []), (8, .ifnull 18, 11, [26]), (11, .aload_n 3, 12, []), 
  (12, .aload_n 0, 13, []), (13, .if_acmp .eq 13, 16, [26]), (16, .aload_n 3, 17, []), (17, .astore_n 2, 18, []), (18, .aload_n 3, 19, []), (19, .getfield 28, 22, [46, 5, 8]), (22, .astore_n 3, 23, []), 
  (23, .goto (-16), 26, [7]), (26, .aload_n 2, 27, []), (27, .ifnonnull 14, 30, [41]), (30, .aload_n 1, 31, []), (31, .aload_n 0, 32, []), (32, .getfield 28, 35, [46, 5, 8]), (35, .putfield 22, 38, [44, 5, 7]), 
  (38, .goto 11, 41, [49]), (41, .aload_n 2, 42, []), (42, .aload_n 0, 43, []), (43, .getfield 28, 46, [46, 5, 8]), (46, .putfield 28, 49, [46, 5, 8]), (49, .aload_n 1, 50, []), (50, .dup, 51, []), 
  (51, .getfield 35, 54, [39, 5, 4]), (54, .iconst 1, 55, []), (55, .isub, 56, []), (56, .putfield 35, 59, [39, 5, 4]), (59, .return_, 60, [])])
/-- TapeVaultLaw.remove(LTapeVault;I)I -/
def mi_39 : MI := (⟨"TapeVaultLaw", "remove", "(LTapeVault;I)I"⟩, method_8_code, 3, (some FieldType.int), [(0, 5, 8, 13), (0, 5, 11, 19)], [
  (0, .aload_n 0, 1, []), (1, .iload_n 1, 2, []), (2, .invokevirtual 37, 5, [9, 1, 40, 0, 474, 475, 476, 39, 477]), (5, .goto 9, 8, [14]), (8, .astore_n 2, 9, []), (9, .iconst 1, 10, []), (10, .ireturn, 11, []), 
  (11, .astore_n 2, 12, []), (12, .iconst 2, 13, []), (13, .ireturn, 14, []), (14, .iconst 0, 15, []), (15, .ireturn, 16, [])])
/-- TapeVault.remove(I)V -/
def mi_40 : MI := (⟨"TapeVault", "remove", "(I)V"⟩, prog_1_method_7_code, 3, (none), [], [
  (0, .aload_n 0, 1, []), (1, .getfield 10, 4, [48, 0, 0]), (4, .iload_n 1, 5, []), (5, .invokevirtual 96, 8, [2, 1, 17, 1, 435, 341, 342, 41, 343]), (8, .astore_n 2, 9, []), (9, .aload_n 2, 10, []), 
  (10, .ifnull 10, 13, [20]), (13, .aload_n 2, 14, []), (14, .invokevirtual 99, 17, [2, 0, 34, 5, 436, 437, 438, 45, 439]), (17, .ifCond .eq 11, 20, [28]), (20, .new 51, 23, [50, 0, 53, 263]), (28, .aload_n 2, 29, []), 
  (29, .getfield 114, 32, [31, 5, 1]), (32, .iconst 2, 33, []), (33, .if_icmp .ne 18, 36, [51]), (36, .aload_n 2, 37, []), (37, .getfield 84, 40, [37, 5, 4]), (40, .ifCond .le 11, 43, [51]), 
  (43, .new 67, 46, [50, 1, 69, 354]), (51, .aload_n 0, 52, []), (52, .getfield 10, 55, [48, 0, 0]), (55, .aload_n 2, 56, []), (56, .invokevirtual 117, 59, [2, 1, 41, 1, 478, 479, 480, 41, 481]), (59, .return_, 60, [])])
/-- TapeVault$Tree.drop(LTapeVault$Node;)V -/
def mi_41 : MI := (⟨"TapeVault$Tree", "drop", "(LTapeVault$Node;)V"⟩, prog_5_method_11_code, 2, (none), [], [
  (0, .aload_n 0, 1, []), (1, .dup, 2, []), (2, .getfield 24, 5, [3, 1, 2]), (5, .iconst 1, 6, []), (6, .iadd, 7, []), (7, .putfield 24, 10, [3, 1, 2]), (10, .aload_n 0, 11, []), (11, .aload_n 1, 12, []), 
  (12, .invokevirtual 52, 15, [2, 1, 37, 1, 463, 465, 3, 41, 466]), (15, .aload_n 0, 16, []), (16, .getfield 11, 19, [0, 1, 0]), (19, .aload_n 1, 20, []), (20, .getfield 56, 23, [27, 5, 0]), (23, .aconst_null, 24, []), 
  (24, .aastore, 25, []), (25, .aload_n 0, 26, []), (26, .dup, 27, []), (27, .getfield 20, 30, [1, 1, 1]), (30, .iconst 1, 31, []), (31, .isub, 32, []), (32, .putfield 20, 35, [1, 1, 1]), (35, .return_, 36, [])])
/-- TapeVaultLaw.dump(LTapeVault;I[J)I -/
def mi_42 : MI := (⟨"TapeVaultLaw", "dump", "(LTapeVault;I[J)I"⟩, method_9_code, 4, (some FieldType.int), [(0, 9, 12, 13), (0, 9, 15, 21)], [
  (0, .aload_n 2, 1, []), (1, .iconst 0, 2, []), (2, .aload_n 0, 3, []), (3, .iload_n 1, 4, []), (4, .invokevirtual 40, 7, [9, 1, 43, 0, 485, 486, 487, 39, 488]), (7, .i2l, 8, []), (8, .lastore, 9, []), 
  (9, .goto 9, 12, [18]), (12, .astore_n 3, 13, []), (13, .iconst 1, 14, []), (14, .ireturn, 15, []), (15, .astore_n 3, 16, []), (16, .iconst 2, 17, []), (17, .ireturn, 18, []), (18, .iconst 0, 19, []), 
  (19, .ireturn, 20, [])])
/-- TapeVault.dump(I)I -/
def mi_43 : MI := (⟨"TapeVault", "dump", "(I)I"⟩, prog_1_method_8_code, 3, (some FieldType.int), [], [
  (0, .iload_n 1, 1, []), (1, .ifCond .lt 9, 4, [10]), (4, .iload_n 1, 5, []), (5, .bipush 9, 7, []), (7, .if_icmp .le 11, 10, [18]), (10, .new 51, 13, [50, 0, 53, 263]), (18, .new 41, 21, [6, 164]), (21, .dup, 22, []), 
  (22, .aload_n 0, 23, []), (23, .getfield 121, 26, [53, 0, 5]), (26, .iload_n 1, 27, []), (27, .aload_n 0, 28, []), (28, .getfield 10, 31, [48, 0, 0]), (31, .getfield 124, 34, [4, 1, 2]), (34, .aload_n 0, 35, []), 
  (35, .iload_n 1, 36, []), (36, .invokevirtual 127, 39, [2, 1, 44, 0, 490, 492, 4, 39, 493]), (39, .invokespecial 131, 42, [4, 4, 45, 494, 495, 55, 496]), (42, .astore_n 2, 43, []), (43, .aload_n 2, 44, []), 
  (44, .aload_n 0, 45, []), (45, .getfield 10, 48, [48, 0, 0]), (48, .aload_n 2, 49, []), (49, .invokevirtual 134, 52, [2, 0, 46, 6, 536, 537, 538, 55, 539]), 
  (52, .invokevirtual 137, 55, [2, 1, 47, 1, 540, 541, 542, 41, 543]), (55, .putfield 141, 58, [69, 6, 5]), (58, .aload_n 2, 59, []), (59, .aload_n 0, 60, []), (60, .getfield 19, 63, [49, 0, 1]), 
  (63, .getfield 144, 66, [11, 2, 4]), (66, .putfield 147, 69, [72, 6, 6]), (69, .aload_n 2, 70, []), (70, .aload_n 2, 71, []), (71, .invokevirtual 150, 74, [2, 0, 49, 6, 548, 549, 550, 55, 551]), (74, .aload_n 0, 75, []), 
  (75, .getfield 10, 78, [48, 0, 0]), (78, .aload_n 2, 79, []), (79, .invokevirtual 134, 82, [2, 0, 46, 6, 536, 537, 538, 55, 539]), (82, .invokevirtual 153, 85, [2, 1, 51, 1, 555, 556, 557, 41, 558]), (85, .iadd, 86, []), 
  (86, .putfield 156, 89, [74, 6, 7]), (89, .aload_n 0, 90, []), (90, .getfield 121, 93, [53, 0, 5]), (93, .bipush 100, 95, []), (95, .if_icmp .ge 17, 98, [112]), (98, .aload_n 0, 99, []), 
  (99, .getfield 19, 102, [49, 0, 1]), (102, .aload_n 2, 103, []), (103, .getfield 156, 106, [74, 6, 7]), (106, .invokevirtual 159, 109, [2, 1, 53, 2, 564, 565, 566, 42, 567]), (109, .ifCond .ne 11, 112, [120]), 
  (112, .new 74, 115, [50, 2, 76, 373]), (120, .aload_n 0, 121, []), (121, .getfield 28, 124, [50, 0, 2]), (124, .aload_n 2, 125, []), (125, .invokevirtual 162, 128, [2, 1, 54, 3, 569, 570, 571, 43, 572]), 
  (128, .aload_n 0, 129, []), (129, .getfield 43, 132, [52, 0, 4]), (132, .aload_n 0, 133, []), (133, .getfield 121, 136, [53, 0, 5]), (136, .aload_n 2, 137, []), (137, .aastore, 138, []), (138, .aload_n 0, 139, []), 
  (139, .dup, 140, []), (140, .getfield 121, 143, [53, 0, 5]), (143, .iconst 1, 144, []), (144, .iadd, 145, []), (145, .putfield 121, 148, [53, 0, 5]), (148, .aload_n 2, 149, []), (149, .getfield 166, 152, [56, 6, 0]), 
  (152, .ireturn, 153, [])])
/-- TapeVault.latestBelow(I)LTapeVault$Dump; -/
def mi_44 : MI := (⟨"TapeVault", "latestBelow", "(I)LTapeVault$Dump;"⟩, prog_1_method_18_code, 4, (some (FieldType.object "TapeVault$Dump")), [], [
  (0, .aload_n 0, 1, []), (1, .getfield 121, 4, [53, 0, 5]), (4, .iconst 1, 5, []), (5, .isub, 6, []), (6, .istore_n 2, 7, []), (7, .iload_n 2, 8, []), (8, .ifCond .lt 30, 11, [38]), (11, .aload_n 0, 12, []), 
  (12, .getfield 43, 15, [52, 0, 4]), (15, .iload_n 2, 16, []), (16, .aaload, 17, []), (17, .astore_n 3, 18, []), (18, .aload_n 3, 19, []), (19, .ifnull 13, 22, [32]), (22, .aload_n 3, 23, []), 
  (23, .getfield 232, 26, [59, 6, 1]), (26, .iload_n 1, 27, []), (27, .if_icmp .ge 5, 30, [32]), (30, .aload_n 3, 31, []), (31, .areturn, 32, []), (32, .iinc 2 (-1), 35, []), (35, .goto (-28), 38, [7]), 
  (38, .aconst_null, 39, []), (39, .areturn, 40, [])])
/-- TapeVault$Dump.<init>(IIILTapeVault$Dump;)V -/
def mi_45 : MI := (⟨"TapeVault$Dump", "<init>", "(IIILTapeVault$Dump;)V"⟩, prog_2_method_1_code, 5, (none), [], [
  (0, .aload_n 0, 1, []), (1, .invokespecial 3, 4, [10, 497, 64, 65]), (4, .aload_n 0, 5, []), (5, .iload_n 1, 6, []), (6, .putfield 9, 9, [54, 6, 0]), (9, .aload_n 0, 10, []), (10, .iload_n 2, 11, []), 
  (11, .putfield 15, 14, [57, 6, 1]), (14, .aload_n 0, 15, []), (15, .iload_n 3, 16, []), (16, .putfield 18, 19, [60, 6, 2]), (19, .aload_n 0, 20, []), (20, .aload 4, 22, []), (22, .putfield 21, 25, [62, 6, 3]), 
  (25, .aload_n 0, 26, []), (26, .aload 4, 28, []), (28, .ifnonnull 7, 31, [35]), (31, .iconst 1, 32, []), (32, .goto 10, 35, [42]), (35, .aload 4, 37, []), (37, .getfield 25, 40, [64, 6, 4]), (40, .iconst 1, 41, []), 
  (41, .iadd, 42, []), (42, .putfield 25, 45, [64, 6, 4]), (45, .return_, 46, [])])
/-- TapeVault$Dump.since()I -/
def mi_46 : MI := (⟨"TapeVault$Dump", "since", "()I"⟩, prog_2_method_2_code, 1, (some FieldType.int), [], [
  (0, .aload_n 0, 1, []), (1, .getfield 21, 4, [62, 6, 3]), (4, .ifnonnull 7, 7, [11]), (7, .iconst (-1), 8, []), (8, .goto 10, 11, [18]), (11, .aload_n 0, 12, []), (12, .getfield 21, 15, [62, 6, 3]), 
  (15, .getfield 18, 18, [60, 6, 2]), (18, .ireturn, 19, [])])
/-- TapeVault$Tree.changedAfter(I)I -/
def mi_47 : MI := (⟨"TapeVault$Tree", "changedAfter", "(I)I"⟩, prog_5_method_14_code, 4, (some FieldType.int), [], [
  (0, .iconst 0, 1, []), (1, .istore_n 2, 2, []), (2, .iconst 0, 3, []), (3, .istore_n 3, 4, []), (4, .iload_n 3, 5, []), (5, .sipush 256, 8, []), (8, .if_icmp .ge 21, 11, [29]), (11, .aload_n 0, 12, []), 
  (12, .iload_n 3, 13, []), (13, .iload_n 1, 14, []), (14, .invokevirtual 66, 17, [2, 2, 48, 1, 544, 545, 546, 41, 547]), (17, .ifnull 6, 20, [23]), (20, .iinc 2 1, 23, []), (23, .iinc 3 1, 26, []), 
  (26, .goto (-22), 29, [4]), (29, .iload_n 2, 30, []), (30, .ireturn, 31, [])])
/-- TapeVault$Tree.changedNode(II)LTapeVault$Node; -/
def mi_48 : MI := (⟨"TapeVault$Tree", "changedNode", "(II)LTapeVault$Node;"⟩, prog_5_method_13_code, 4, (some (FieldType.object "TapeVault$Node")), [], [
  (0, .aload_n 0, 1, []), (1, .iload_n 1, 2, []), (2, .invokevirtual 31, 5, [2, 1, 17, 1, 340, 341, 342, 41, 343]), (5, .astore_n 3, 6, []), (6, .aload_n 3, 7, []), (7, .ifnull 15, 10, [22]), (10, .aload_n 3, 11, []), 
  (11, .getfield 42, 14, [42, 5, 5]), (14, .iload_n 2, 15, []), (15, .if_icmp .le 7, 18, [22]), (18, .aload_n 3, 19, []), (19, .goto 4, 22, [23]), (22, .aconst_null, 23, []), (23, .areturn, 24, [])])
/-- TapeVault$Dump.blocksBeforeNodes()I -/
def mi_49 : MI := (⟨"TapeVault$Dump", "blocksBeforeNodes", "()I"⟩, prog_2_method_5_code, 1, (some FieldType.int), [], [
  (0, .iconst 2, 1, []), (1, .aload_n 0, 2, []), (2, .getfield 31, 5, [67, 6, 5]), (5, .bipush 31, 7, []), (7, .invokestatic 34, 10, [1, 2, 50, 552, 553, 39, 554]), (10, .iadd, 11, []), (11, .ireturn, 12, [])])
/-- TapeVault.quotientUp(II)I -/
def mi_50 : MI := (⟨"TapeVault", "quotientUp", "(II)I"⟩, prog_1_method_21_code, 2, (some FieldType.int), [], [
  (0, .iload_n 1, 1, []), (1, .ifCond .gt 7, 4, [8]), (4, .iconst 0, 5, []), (5, .goto 10, 8, [15]), (8, .iload_n 0, 9, []), (9, .iload_n 1, 10, []), (10, .iadd, 11, []), (11, .iconst 1, 12, []), (12, .isub, 13, []), 
  (13, .iload_n 1, 14, []), (14, .idiv, 15, []), (15, .ireturn, 16, [])])
/-- TapeVault$Tree.blocksChangedAfter(I)I -/
def mi_51 : MI := (⟨"TapeVault$Tree", "blocksChangedAfter", "(I)I"⟩, prog_5_method_15_code, 5, (some FieldType.int), [], [
  (0, .iconst 0, 1, []), (1, .istore_n 2, 2, []), (2, .iconst 0, 3, []), (3, .istore_n 3, 4, []), (4, .iload_n 3, 5, []), (5, .sipush 256, 8, []), (8, .if_icmp .ge 30, 11, [38]), (11, .aload_n 0, 12, []), 
  (12, .iload_n 3, 13, []), (13, .iload_n 1, 14, []), (14, .invokevirtual 66, 17, [2, 2, 48, 1, 544, 545, 546, 41, 547]), (17, .astore 4, 19, []), (19, .aload 4, 21, []), (21, .ifnull 11, 24, [32]), 
  (24, .iload_n 2, 25, []), (25, .aload 4, 27, []), (27, .invokevirtual 70, 30, [2, 0, 52, 5, 559, 560, 561, 45, 562]), (30, .iadd, 31, []), (31, .istore_n 2, 32, []), (32, .iinc 3 1, 35, []), (35, .goto (-31), 38, [4]), 
  (38, .iload_n 2, 39, []), (39, .ireturn, 40, [])])
/-- TapeVault$Node.blocks()I -/
def mi_52 : MI := (⟨"TapeVault$Node", "blocks", "()I"⟩, prog_3_method_8_code, 1, (some FieldType.int), [], [
  (0, .iconst 1, 1, []), (1, .aload_n 0, 2, []), (2, .getfield 35, 5, [39, 5, 4]), (5, .aload_n 0, 6, []), (6, .getfield 15, 9, [28, 5, 1]), (9, .iconst 1, 10, []), (10, .if_icmp .ne 8, 13, [18]), (13, .bipush 64, 15, []), 
  (15, .goto 5, 18, [20]), (18, .bipush 21, 20, []), (20, .invokestatic 44, 23, [1, 2, 50, 563, 553, 39, 554]), (23, .iadd, 24, []), (24, .ireturn, 25, [])])
/-- TapeVault$Volumes.hasRoomFor(I)Z -/
def mi_53 : MI := (⟨"TapeVault$Volumes", "hasRoomFor", "(I)Z"⟩, prog_7_method_4_code, 3, (some FieldType.boolean), [], [
  (0, .aload_n 0, 1, []), (1, .getfield 32, 4, [10, 2, 4]), (4, .iload_n 1, 5, []), (5, .iadd, 6, []), (6, .istore_n 2, 7, []), (7, .iload_n 2, 8, []), (8, .iload_n 2, 9, []), (9, .aload_n 0, 10, []), 
  (10, .getfield 19, 13, [7, 2, 2]), (13, .iconst 1, 14, []), (14, .isub, 15, []), (15, .invokestatic 35, 18, [1, 2, 50, 568, 553, 39, 554]), (18, .iadd, 19, []), (19, .sipush 4000, 22, []), (22, .if_icmp .gt 7, 25, [29]), 
  (25, .iconst 1, 26, []), (26, .goto 4, 29, [30]), (29, .iconst 0, 30, []), (30, .ireturn, 31, [])])
/-- TapeVault$Writer.writeAll(LTapeVault$Dump;)V -/
def mi_54 : MI := (⟨"TapeVault$Writer", "writeAll", "(LTapeVault$Dump;)V"⟩, prog_8_method_2_code, 4, (none), [], [
  (0, .aload_n 0, 1, []), (1, .aload_n 1, 2, []), (2, .invokevirtual 19, 5, [2, 1, 55, 3, 573, 575, 5, 43, 576]), (5, .aload_n 0, 6, []), (6, .invokevirtual 23, 9, [2, 0, 61, 3, 614, 616, 7, 43, 617]), 
  (9, .aload_n 0, 10, []), (10, .aload_n 1, 11, []), (11, .invokevirtual 26, 14, [2, 1, 62, 3, 619, 621, 8, 43, 622]), (14, .iconst 0, 15, []), (15, .istore_n 2, 16, []), (16, .iload_n 2, 17, []), (17, .sipush 256, 20, []), 
  (20, .if_icmp .ge 41, 23, [61]), (23, .aload_n 0, 24, []), (24, .getfield 9, 27, [12, 3, 0]), (27, .iload_n 2, 28, []), (28, .aload_n 1, 29, []), (29, .invokevirtual 29, 32, [2, 0, 46, 6, 623, 537, 538, 55, 539]), 
  (32, .invokevirtual 35, 35, [2, 2, 48, 1, 624, 545, 546, 41, 547]), (35, .astore_n 3, 36, []), (36, .aload_n 3, 37, []), (37, .ifnull 18, 40, [55]), (40, .aload_n 0, 41, []), (41, .aload_n 3, 42, []), 
  (42, .invokevirtual 41, 45, [2, 1, 63, 3, 627, 629, 9, 43, 630]), (45, .aload_n 0, 46, []), (46, .aload_n 3, 47, []), (47, .invokevirtual 45, 50, [2, 1, 65, 3, 635, 637, 10, 43, 638]), (50, .aload_n 0, 51, []), 
  (51, .aload_n 3, 52, []), (52, .invokevirtual 48, 55, [2, 1, 67, 3, 643, 645, 11, 43, 646]), (55, .iinc 2 1, 58, []), (58, .goto (-42), 61, [16]), (61, .return_, 62, [])])
/-- TapeVault$Writer.writeHead(LTapeVault$Dump;)V -/
def mi_55 : MI := (⟨"TapeVault$Writer", "writeHead", "(LTapeVault$Dump;)V"⟩, prog_8_method_3_code, 2, (none), [], [
  (0, .aload_n 0, 1, []), (1, .getfield 15, 4, [13, 3, 1]), (4, .invokevirtual 51, 7, [2, 0, 56, 2, 577, 578, 579, 42, 580]), (7, .aload_n 0, 8, []), (8, .getfield 15, 11, [13, 3, 1]), (11, .iconst 0, 12, []), 
  (12, .iconst 1, 13, []), (13, .bipush 72, 15, []), (15, .invokevirtual 56, 18, [2, 3, 60, 2, 613, 610, 611, 42, 612]), (18, .aload_n 0, 19, []), (19, .getfield 15, 22, [13, 3, 1]), (22, .iconst 1, 23, []), 
  (23, .iconst 1, 24, []), (24, .aload_n 1, 25, []), (25, .getfield 60, 28, [58, 6, 1]), (28, .invokevirtual 56, 31, [2, 3, 60, 2, 613, 610, 611, 42, 612]), (31, .aload_n 0, 32, []), (32, .getfield 15, 35, [13, 3, 1]), 
  (35, .iconst 2, 36, []), (36, .iconst 2, 37, []), (37, .aload_n 1, 38, []), (38, .getfield 64, 41, [55, 6, 0]), (41, .invokevirtual 56, 44, [2, 3, 60, 2, 613, 610, 611, 42, 612]), (44, .aload_n 0, 45, []), 
  (45, .getfield 15, 48, [13, 3, 1]), (48, .iconst 4, 49, []), (49, .iconst 4, 50, []), (50, .aload_n 1, 51, []), (51, .getfield 67, 54, [61, 6, 2]), (54, .invokevirtual 56, 57, [2, 3, 60, 2, 613, 610, 611, 42, 612]), 
  (57, .aload_n 0, 58, []), (58, .getfield 15, 61, [13, 3, 1]), (61, .bipush 8, 63, []), (63, .iconst 2, 64, []), (64, .aload_n 1, 65, []), (65, .getfield 70, 68, [63, 6, 3]), (68, .ifnonnull 7, 71, [75]), 
  (71, .iconst 0, 72, []), (72, .goto 12, 75, [84]), (75, .aload_n 1, 76, []), (76, .getfield 70, 79, [63, 6, 3]), (79, .getfield 64, 82, [55, 6, 0]), (82, .iconst 1, 83, []), (83, .iadd, 84, []), 
  (84, .invokevirtual 56, 87, [2, 3, 60, 2, 613, 610, 611, 42, 612]), (87, .aload_n 0, 88, []), (88, .getfield 15, 91, [13, 3, 1]), (91, .bipush 10, 93, []), (93, .iconst 2, 94, []), (94, .aload_n 1, 95, []), 
  (95, .getfield 74, 98, [66, 6, 5]), (98, .invokevirtual 56, 101, [2, 3, 60, 2, 613, 610, 611, 42, 612]), (101, .return_, 102, [])])
/-- TapeVault$Volumes.append()V -/
def mi_56 : MI := (⟨"TapeVault$Volumes", "append", "()V"⟩, prog_7_method_5_code, 1, (none), [], [
  (0, .aload_n 0, 1, []), (1, .getfield 29, 4, [8, 2, 3]), (4, .aload_n 0, 5, []), (5, .getfield 19, 8, [7, 2, 2]), (8, .irem, 9, []), (9, .ifCond .ne 30, 12, [39]), (12, .aload_n 0, 13, []), 
  (13, .invokevirtual 38, 16, [2, 0, 57, 2, 581, 583, 6, 42, 584]), (16, .aload_n 0, 17, []), (17, .iconst 0, 18, []), (18, .iconst 1, 19, []), (19, .bipush 76, 21, []), 
  (21, .invokevirtual 41, 24, [2, 3, 60, 2, 609, 610, 611, 42, 612]), (24, .aload_n 0, 25, []), (25, .iconst 1, 26, []), (26, .iconst 2, 27, []), (27, .aload_n 0, 28, []), (28, .getfield 29, 31, [8, 2, 3]), 
  (31, .aload_n 0, 32, []), (32, .getfield 19, 35, [7, 2, 2]), (35, .idiv, 36, []), (36, .invokevirtual 41, 39, [2, 3, 60, 2, 609, 610, 611, 42, 612]), (39, .aload_n 0, 40, []), 
  (40, .invokevirtual 38, 43, [2, 0, 57, 2, 581, 583, 6, 42, 584]), (43, .aload_n 0, 44, []), (44, .dup, 45, []), (45, .getfield 32, 48, [10, 2, 4]), (48, .iconst 1, 49, []), (49, .iadd, 50, []), 
  (50, .putfield 32, 53, [10, 2, 4]), (53, .return_, 54, [])])
/-- TapeVault$Volumes.appendPosition()V -/
def mi_57 : MI := (⟨"TapeVault$Volumes", "appendPosition", "()V"⟩, prog_7_method_6_code, 3, (none), [], [
  (0, .aload_n 0, 1, []), (1, .getfield 29, 4, [8, 2, 3]), (4, .aload_n 0, 5, []), (5, .getfield 15, 8, [6, 2, 1]), (8, .arraylength, 9, []), (9, .if_icmp .lt 39, 12, [48]), (12, .aload_n 0, 13, []), 
  (13, .aload_n 0, 14, []), (14, .getfield 9, 17, [5, 2, 0]), (17, .iconst 2, 18, []), (18, .aload_n 0, 19, []), (19, .getfield 9, 22, [5, 2, 0]), (22, .arraylength, 23, []), (23, .imul, 24, []), 
  (24, .invokestatic 45, 27, [0, 2, 58, 585, 586, 56, 587]), (27, .putfield 9, 30, [5, 2, 0]), (30, .aload_n 0, 31, []), (31, .aload_n 0, 32, []), (32, .getfield 15, 35, [6, 2, 1]), (35, .iconst 2, 36, []), 
  (36, .aload_n 0, 37, []), (37, .getfield 15, 40, [6, 2, 1]), (40, .arraylength, 41, []), (41, .imul, 42, []), (42, .invokestatic 51, 45, [0, 2, 59, 601, 602, 56, 603]), (45, .putfield 15, 48, [6, 2, 1]), 
  (48, .aload_n 0, 49, []), (49, .getfield 29, 52, [8, 2, 3]), (52, .bipush 8, 54, []), (54, .imul, 55, []), (55, .istore_n 1, 56, []), (56, .iload_n 1, 57, []), (57, .istore_n 2, 58, []), (58, .iload_n 2, 59, []), 
  (59, .iload_n 1, 60, []), (60, .bipush 8, 62, []), (62, .iadd, 63, []), (63, .if_icmp .ge 16, 66, [79]), (66, .aload_n 0, 67, []), (67, .getfield 9, 70, [5, 2, 0]), (70, .iload_n 2, 71, []), (71, .lconst 0, 72, []), 
  (72, .lastore, 73, []), (73, .iinc 2 1, 76, []), (76, .goto (-18), 79, [58]), (79, .aload_n 0, 80, []), (80, .getfield 15, 83, [6, 2, 1]), (83, .aload_n 0, 84, []), (84, .getfield 29, 87, [8, 2, 3]), 
  (87, .iconst 0, 88, []), (88, .bastore, 89, []), (89, .aload_n 0, 90, []), (90, .dup, 91, []), (91, .getfield 29, 94, [8, 2, 3]), (94, .iconst 1, 95, []), (95, .iadd, 96, []), (96, .putfield 29, 99, [8, 2, 3]), 
  (99, .return_, 100, [])])
/-- java/util/Arrays.copyOf([JI)[J -/
def mi_58 : MI := (⟨"java/util/Arrays", "copyOf", "([JI)[J"⟩, prog_21_method_124_code, 3, (some (FieldType.array FieldType.long)), [], [
  (0, .iload_n 1, 1, []), (1, .aload_n 0, 2, []), (2, .arraylength, 3, []), (3, .if_icmp .ne 11, 6, [14]), (14, .iload_n 1, 15, []), (15, .newarray .long, 17, []), (17, .astore_n 2, 18, []), (18, .aload_n 0, 19, []), 
  (19, .iconst 0, 20, []), (20, .aload_n 2, 21, []), (21, .iconst 0, 22, []), (22, .aload_n 0, 23, []), (23, .arraylength, 24, []), (24, .iload_n 1, 25, []), (25, .invokestatic 304, 28, [12, 595, 596, 46, 597]), 
  (28, .invokestatic 150, 31, [7, 598]), (31, .aload_n 2, 32, []), (32, .areturn, 33, [])])
/-- java/util/Arrays.copyOf([BI)[B -/
def mi_59 : MI := (⟨"java/util/Arrays", "copyOf", "([BI)[B"⟩, prog_21_method_121_code, 3, (some (FieldType.array FieldType.byte)), [], [
  (0, .iload_n 1, 1, []), (1, .aload_n 0, 2, []), (2, .arraylength, 3, []), (3, .if_icmp .ne 11, 6, [14]), (14, .iload_n 1, 15, []), (15, .newarray .byte, 17, []), (17, .astore_n 2, 18, []), (18, .aload_n 0, 19, []), 
  (19, .iconst 0, 20, []), (20, .aload_n 2, 21, []), (21, .iconst 0, 22, []), (22, .aload_n 0, 23, []), (23, .arraylength, 24, []), (24, .iload_n 1, 25, []), (25, .invokestatic 304, 28, [12, 595, 596, 46, 597]), 
  (28, .invokestatic 150, 31, [7, 598]), (31, .aload_n 2, 32, []), (32, .areturn, 33, [])])
/-- TapeVault$Volumes.store(III)V -/
def mi_60 : MI := (⟨"TapeVault$Volumes", "store", "(III)V"⟩, prog_7_method_7_code, 7, (none), [], [
  (0, .iconst 0, 1, []), (1, .istore 4, 3, []), (3, .iload 4, 5, []), (5, .iload_n 2, 6, []), (6, .if_icmp .ge 87, 9, [93]), (9, .iload_n 3, 10, []), (10, .bipush 8, 12, []), (12, .iload_n 2, 13, []), 
  (13, .iconst 1, 14, []), (14, .isub, 15, []), (15, .iload 4, 17, []), (17, .isub, 18, []), (18, .imul, 19, []), (19, .iushr, 20, []), (20, .sipush 255, 23, []), (23, .iand, 24, []), (24, .istore 5, 26, []), 
  (26, .aload_n 0, 27, []), (27, .getfield 29, 30, [8, 2, 3]), (30, .iconst 1, 31, []), (31, .isub, 32, []), (32, .bipush 8, 34, []), (34, .imul, 35, []), (35, .iload_n 1, 36, []), (36, .iload 4, 38, []), 
  (38, .iadd, 39, []), (39, .bipush 8, 41, []), (41, .idiv, 42, []), (42, .iadd, 43, []), (43, .istore 6, 45, []), (45, .iload 6, 47, []), (47, .ifCond .lt 40, 50, [87]), (50, .iload 6, 52, []), (52, .aload_n 0, 53, []), 
  (53, .getfield 9, 56, [5, 2, 0]), (56, .arraylength, 57, []), (57, .if_icmp .ge 30, 60, [87]), (60, .aload_n 0, 61, []), (61, .getfield 9, 64, [5, 2, 0]), (64, .iload 6, 66, []), (66, .dup2, 67, []), 
  (67, .laload, 68, []), (68, .iload 5, 70, []), (70, .i2l, 71, []), (71, .bipush 56, 73, []), (73, .bipush 8, 75, []), (75, .iload_n 1, 76, []), (76, .iload 4, 78, []), (78, .iadd, 79, []), (79, .bipush 8, 81, []), 
  (81, .irem, 82, []), (82, .imul, 83, []), (83, .isub, 84, []), (84, .lshl, 85, []), (85, .lor, 86, []), (86, .lastore, 87, []), (87, .iinc 4 1, 90, []), (90, .goto (-87), 93, [3]), (93, .return_, 94, [])])
/-- TapeVault$Writer.writeMap()V -/
def mi_61 : MI := (⟨"TapeVault$Writer", "writeMap", "()V"⟩, prog_8_method_4_code, 2, (none), [], [
  (0, .aload_n 0, 1, []), (1, .getfield 15, 4, [13, 3, 1]), (4, .invokevirtual 51, 7, [2, 0, 56, 2, 577, 578, 579, 42, 580]), (7, .aload_n 0, 8, []), (8, .getfield 15, 11, [13, 3, 1]), (11, .iconst 0, 12, []), 
  (12, .iconst 1, 13, []), (13, .bipush 77, 15, []), (15, .invokevirtual 56, 18, [2, 3, 60, 2, 613, 610, 611, 42, 612]), (18, .iconst 0, 19, []), (19, .istore_n 1, 20, []), (20, .iload_n 1, 21, []), 
  (21, .sipush 256, 24, []), (24, .if_icmp .ge 43, 27, [67]), (27, .aload_n 0, 28, []), (28, .getfield 9, 31, [12, 3, 0]), (31, .iload_n 1, 32, []), (32, .invokevirtual 77, 35, [2, 1, 17, 1, 618, 341, 342, 41, 343]), 
  (35, .ifnull 26, 38, [61]), (38, .aload_n 0, 39, []), (39, .getfield 15, 42, [13, 3, 1]), (42, .iconst 1, 43, []), (43, .iload_n 1, 44, []), (44, .bipush 8, 46, []), (46, .idiv, 47, []), (47, .iadd, 48, []), 
  (48, .iconst 1, 49, []), (49, .iconst 1, 50, []), (50, .bipush 7, 52, []), (52, .iload_n 1, 53, []), (53, .bipush 8, 55, []), (55, .irem, 56, []), (56, .isub, 57, []), (57, .ishl, 58, []), 
  (58, .invokevirtual 56, 61, [2, 3, 60, 2, 613, 610, 611, 42, 612]), (61, .iinc 1 1, 64, []), (64, .goto (-44), 67, [20]), (67, .return_, 68, [])])
/-- TapeVault$Writer.writeIndex(LTapeVault$Dump;)V -/
def mi_62 : MI := (⟨"TapeVault$Writer", "writeIndex", "(LTapeVault$Dump;)V"⟩, prog_8_method_5_code, 6, (none), [], [
  (0, .iconst 0, 1, []), (1, .istore_n 2, 2, []), (2, .iconst 0, 3, []), (3, .istore_n 3, 4, []), (4, .iload_n 3, 5, []), (5, .sipush 256, 8, []), (8, .if_icmp .ge 114, 11, [122]), (11, .aload_n 0, 12, []), 
  (12, .getfield 9, 15, [12, 3, 0]), (15, .iload_n 3, 16, []), (16, .aload_n 1, 17, []), (17, .invokevirtual 29, 20, [2, 0, 46, 6, 623, 537, 538, 55, 539]), 
  (20, .invokevirtual 35, 23, [2, 2, 48, 1, 624, 545, 546, 41, 547]), (23, .astore 4, 25, []), (25, .aload 4, 27, []), (27, .ifnull 89, 30, [116]), (30, .iload_n 2, 31, []), (31, .bipush 31, 33, []), (33, .irem, 34, []), 
  (34, .ifCond .ne 41, 37, [75]), (37, .aload_n 0, 38, []), (38, .getfield 15, 41, [13, 3, 1]), (41, .invokevirtual 51, 44, [2, 0, 56, 2, 577, 578, 579, 42, 580]), (44, .aload_n 0, 45, []), 
  (45, .getfield 15, 48, [13, 3, 1]), (48, .iconst 0, 49, []), (49, .iconst 1, 50, []), (50, .bipush 73, 52, []), (52, .invokevirtual 56, 55, [2, 3, 60, 2, 613, 610, 611, 42, 612]), (55, .aload_n 0, 56, []), 
  (56, .getfield 15, 59, [13, 3, 1]), (59, .iconst 1, 60, []), (60, .iconst 1, 61, []), (61, .bipush 31, 63, []), (63, .aload_n 1, 64, []), (64, .getfield 74, 67, [66, 6, 5]), (67, .iload_n 2, 68, []), (68, .isub, 69, []), 
  (69, .invokestatic 81, 72, [12, 625, 596, 46, 597]), (72, .invokevirtual 56, 75, [2, 3, 60, 2, 613, 610, 611, 42, 612]), (75, .iconst 2, 76, []), (76, .iconst 2, 77, []), (77, .iload_n 2, 78, []), 
  (78, .bipush 31, 80, []), (80, .irem, 81, []), (81, .imul, 82, []), (82, .iadd, 83, []), (83, .istore 5, 85, []), (85, .aload_n 0, 86, []), (86, .getfield 15, 89, [13, 3, 1]), (89, .iload 5, 91, []), 
  (91, .iconst 1, 92, []), (92, .iload_n 3, 93, []), (93, .invokevirtual 56, 96, [2, 3, 60, 2, 613, 610, 611, 42, 612]), (96, .aload_n 0, 97, []), (97, .getfield 15, 100, [13, 3, 1]), (100, .iload 5, 102, []), 
  (102, .iconst 1, 103, []), (103, .iadd, 104, []), (104, .iconst 1, 105, []), (105, .aload 4, 107, []), (107, .invokevirtual 87, 110, [2, 0, 52, 5, 626, 560, 561, 45, 562]), 
  (110, .invokevirtual 56, 113, [2, 3, 60, 2, 613, 610, 611, 42, 612]), (113, .iinc 2 1, 116, []), (116, .iinc 3 1, 119, []), (119, .goto (-115), 122, [4]), (122, .return_, 123, [])])
/-- TapeVault$Writer.writeFacts(LTapeVault$Node;)V -/
def mi_63 : MI := (⟨"TapeVault$Writer", "writeFacts", "(LTapeVault$Node;)V"⟩, prog_8_method_6_code, 2, (none), [], [
  (0, .aload_n 0, 1, []), (1, .getfield 15, 4, [13, 3, 1]), (4, .invokevirtual 51, 7, [2, 0, 56, 2, 577, 578, 579, 42, 580]), (7, .aload_n 0, 8, []), (8, .getfield 15, 11, [13, 3, 1]), (11, .iconst 0, 12, []), 
  (12, .iconst 1, 13, []), (13, .bipush 78, 15, []), (15, .invokevirtual 56, 18, [2, 3, 60, 2, 613, 610, 611, 42, 612]), (18, .aload_n 0, 19, []), (19, .getfield 15, 22, [13, 3, 1]), (22, .iconst 1, 23, []), 
  (23, .iconst 1, 24, []), (24, .aload_n 1, 25, []), (25, .getfield 92, 28, [26, 5, 0]), (28, .invokevirtual 56, 31, [2, 3, 60, 2, 613, 610, 611, 42, 612]), (31, .aload_n 0, 32, []), (32, .getfield 15, 35, [13, 3, 1]), 
  (35, .iconst 2, 36, []), (36, .iconst 1, 37, []), (37, .aload_n 1, 38, []), (38, .getfield 93, 41, [30, 5, 1]), (41, .invokevirtual 56, 44, [2, 3, 60, 2, 613, 610, 611, 42, 612]), (44, .aload_n 0, 45, []), 
  (45, .getfield 15, 48, [13, 3, 1]), (48, .iconst 3, 49, []), (49, .iconst 2, 50, []), (50, .aload_n 1, 51, []), (51, .getfield 96, 54, [35, 5, 3]), (54, .invokevirtual 56, 57, [2, 3, 60, 2, 613, 610, 611, 42, 612]), 
  (57, .aload_n 0, 58, []), (58, .getfield 15, 61, [13, 3, 1]), (61, .iconst 5, 62, []), (62, .iconst 1, 63, []), (63, .aload_n 1, 64, []), (64, .invokevirtual 99, 67, [2, 0, 64, 5, 631, 632, 633, 45, 634]), 
  (67, .invokevirtual 56, 70, [2, 3, 60, 2, 613, 610, 611, 42, 612]), (70, .aload_n 0, 71, []), (71, .getfield 15, 74, [13, 3, 1]), (74, .bipush 6, 76, []), (76, .iconst 2, 77, []), (77, .aload_n 1, 78, []), 
  (78, .getfield 102, 81, [38, 5, 4]), (81, .invokevirtual 56, 84, [2, 3, 60, 2, 613, 610, 611, 42, 612]), (84, .aload_n 0, 85, []), (85, .getfield 15, 88, [13, 3, 1]), (88, .bipush 8, 90, []), (90, .iconst 4, 91, []), 
  (91, .aload_n 1, 92, []), (92, .getfield 105, 95, [41, 5, 5]), (95, .invokevirtual 56, 98, [2, 3, 60, 2, 613, 610, 611, 42, 612]), (98, .return_, 99, [])])
/-- TapeVault$Node.parentNumber()I -/
def mi_64 : MI := (⟨"TapeVault$Node", "parentNumber", "()I"⟩, prog_3_method_3_code, 1, (some FieldType.int), [], [
  (0, .aload_n 0, 1, []), (1, .getfield 18, 4, [32, 5, 2]), (4, .ifnonnull 7, 7, [11]), (7, .iconst 0, 8, []), (8, .goto 10, 11, [18]), (11, .aload_n 0, 12, []), (12, .getfield 18, 15, [32, 5, 2]), 
  (15, .getfield 9, 18, [25, 5, 0]), (18, .ireturn, 19, [])])
/-- TapeVault$Writer.writeOctets(LTapeVault$Node;)V -/
def mi_65 : MI := (⟨"TapeVault$Writer", "writeOctets", "(LTapeVault$Node;)V"⟩, prog_8_method_7_code, 3, (none), [], [
  (0, .aload_n 1, 1, []), (1, .getfield 93, 4, [30, 5, 1]), (4, .iconst 1, 5, []), (5, .if_icmp .eq 4, 8, [9]), (8, .return_, 9, []), (9, .iconst 0, 10, []), (10, .istore_n 2, 11, []), (11, .iload_n 2, 12, []), 
  (12, .aload_n 1, 13, []), (13, .getfield 102, 16, [38, 5, 4]), (16, .if_icmp .ge 40, 19, [56]), (19, .iload_n 2, 20, []), (20, .bipush 64, 22, []), (22, .irem, 23, []), (23, .ifCond .ne 10, 26, [33]), 
  (26, .aload_n 0, 27, []), (27, .getfield 15, 30, [13, 3, 1]), (30, .invokevirtual 51, 33, [2, 0, 56, 2, 577, 578, 579, 42, 580]), (33, .aload_n 0, 34, []), (34, .getfield 15, 37, [13, 3, 1]), (37, .iload_n 2, 38, []), 
  (38, .bipush 64, 40, []), (40, .irem, 41, []), (41, .iconst 1, 42, []), (42, .aload_n 1, 43, []), (43, .iload_n 2, 44, []), (44, .invokevirtual 108, 47, [2, 1, 66, 5, 639, 640, 641, 45, 642]), 
  (47, .invokevirtual 56, 50, [2, 3, 60, 2, 613, 610, 611, 42, 612]), (50, .iinc 2 1, 53, []), (53, .goto (-42), 56, [11]), (56, .return_, 57, [])])
/-- TapeVault$Node.octetAt(I)I -/
def mi_66 : MI := (⟨"TapeVault$Node", "octetAt", "(I)I"⟩, prog_3_method_6_code, 2, (some FieldType.int), [], [
  (0, .aload_n 0, 1, []), (1, .getfield 31, 4, [43, 5, 6]), (4, .ifnull 16, 7, [20]), (7, .iload_n 1, 8, []), (8, .ifCond .lt 12, 11, [20]), (11, .iload_n 1, 12, []), (12, .aload_n 0, 13, []), 
  (13, .getfield 31, 16, [43, 5, 6]), (16, .arraylength, 17, []), (17, .if_icmp .lt 7, 20, [24]), (20, .iconst 0, 21, []), (21, .goto 13, 24, [34]), (24, .aload_n 0, 25, []), (25, .getfield 31, 28, [43, 5, 6]), 
  (28, .iload_n 1, 29, []), (29, .baload, 30, []), (30, .sipush 255, 33, []), (33, .iand, 34, []), (34, .ireturn, 35, [])])
/-- TapeVault$Writer.writeEntries(LTapeVault$Node;)V -/
def mi_67 : MI := (⟨"TapeVault$Writer", "writeEntries", "(LTapeVault$Node;)V"⟩, prog_8_method_8_code, 4, (none), [], [
  (0, .bipush 21, 2, []), (2, .istore_n 2, 3, []), (3, .aload_n 1, 4, []), (4, .getfield 112, 7, [45, 5, 7]), (7, .astore_n 3, 8, []), (8, .aload_n 3, 9, []), (9, .ifnull 61, 12, [70]), (12, .iload_n 2, 13, []), 
  (13, .bipush 21, 15, []), (15, .if_icmp .ne 12, 18, [27]), (18, .aload_n 0, 19, []), (19, .getfield 15, 22, [13, 3, 1]), (22, .invokevirtual 51, 25, [2, 0, 56, 2, 577, 578, 579, 42, 580]), (25, .iconst 0, 26, []), 
  (26, .istore_n 2, 27, []), (27, .aload_n 0, 28, []), (28, .getfield 15, 31, [13, 3, 1]), (31, .iconst 3, 32, []), (32, .iload_n 2, 33, []), (33, .imul, 34, []), (34, .iconst 2, 35, []), (35, .aload_n 3, 36, []), 
  (36, .getfield 96, 39, [35, 5, 3]), (39, .invokevirtual 56, 42, [2, 3, 60, 2, 613, 610, 611, 42, 612]), (42, .aload_n 0, 43, []), (43, .getfield 15, 46, [13, 3, 1]), (46, .iconst 3, 47, []), (47, .iload_n 2, 48, []), 
  (48, .imul, 49, []), (49, .iconst 2, 50, []), (50, .iadd, 51, []), (51, .iconst 1, 52, []), (52, .aload_n 3, 53, []), (53, .getfield 92, 56, [26, 5, 0]), (56, .invokevirtual 56, 59, [2, 3, 60, 2, 613, 610, 611, 42, 612]), 
  (59, .iinc 2 1, 62, []), (62, .aload_n 3, 63, []), (63, .getfield 116, 66, [47, 5, 8]), (66, .astore_n 3, 67, []), (67, .goto (-59), 70, [8]), (70, .return_, 71, [])])
/-- TapeVaultLaw.spoil(LTapeVault;II)I -/
def mi_68 : MI := (⟨"TapeVaultLaw", "spoil", "(LTapeVault;II)I"⟩, method_10_code, 4, (some FieldType.int), [(0, 6, 9, 21)], [
  (0, .aload_n 0, 1, []), (1, .iload_n 1, 2, []), (2, .iload_n 2, 3, []), (3, .invokevirtual 44, 6, [9, 2, 69, 0, 650, 651, 652, 39, 653]), (6, .goto 6, 9, [12]), (9, .astore_n 3, 10, []), (10, .iconst 1, 11, []), 
  (11, .ireturn, 12, []), (12, .iconst 0, 13, []), (13, .ireturn, 14, [])])
/-- TapeVault.spoil(II)V -/
def mi_69 : MI := (⟨"TapeVault", "spoil", "(II)V"⟩, prog_1_method_9_code, 4, (none), [], [
  (0, .aload_n 0, 1, []), (1, .getfield 19, 4, [49, 0, 1]), (4, .iload_n 1, 5, []), (5, .iload_n 2, 6, []), (6, .invokevirtual 169, 9, [2, 2, 70, 2, 654, 655, 656, 42, 657]), (9, .istore_n 3, 10, []), 
  (10, .iload_n 3, 11, []), (11, .iconst (-1), 12, []), (12, .if_icmp .ne 11, 15, [23]), (15, .new 74, 18, [50, 2, 76, 373]), (23, .aload_n 0, 24, []), (24, .getfield 19, 27, [49, 0, 1]), (27, .iload_n 3, 28, []), 
  (28, .invokevirtual 173, 31, [2, 1, 71, 2, 658, 659, 660, 42, 661]), (31, .return_, 32, [])])
/-- TapeVault$Volumes.positionOf(II)I -/
def mi_70 : MI := (⟨"TapeVault$Volumes", "positionOf", "(II)I"⟩, prog_7_method_14_code, 4, (some FieldType.int), [], [
  (0, .iload_n 1, 1, []), (1, .ifCond .lt 22, 4, [23]), (4, .iload_n 1, 5, []), (5, .sipush 4000, 8, []), (8, .if_icmp .ge 15, 11, [23]), (11, .iload_n 2, 12, []), (12, .ifCond .lt 11, 15, [23]), (15, .iload_n 2, 16, []), 
  (16, .aload_n 0, 17, []), (17, .getfield 19, 20, [7, 2, 2]), (20, .if_icmp .lt 5, 23, [25]), (23, .iconst (-1), 24, []), (24, .ireturn, 25, []), (25, .iload_n 1, 26, []), (26, .aload_n 0, 27, []), 
  (27, .getfield 19, 30, [7, 2, 2]), (30, .imul, 31, []), (31, .iload_n 2, 32, []), (32, .iadd, 33, []), (33, .istore_n 3, 34, []), (34, .iload_n 3, 35, []), (35, .aload_n 0, 36, []), (36, .getfield 29, 39, [8, 2, 3]), 
  (39, .if_icmp .ge 7, 42, [46]), (42, .iload_n 3, 43, []), (43, .goto 4, 46, [47]), (46, .iconst (-1), 47, []), (47, .ireturn, 48, [])])
/-- TapeVault$Volumes.spoilAt(I)V -/
def mi_71 : MI := (⟨"TapeVault$Volumes", "spoilAt", "(I)V"⟩, prog_7_method_10_code, 2, (none), [], [
  (0, .iload_n 1, 1, []), (1, .ifCond .lt 19, 4, [20]), (4, .iload_n 1, 5, []), (5, .aload_n 0, 6, []), (6, .getfield 15, 9, [6, 2, 1]), (9, .arraylength, 10, []), (10, .if_icmp .ge 10, 13, [20]), (13, .aload_n 0, 14, []), 
  (14, .getfield 15, 17, [6, 2, 1]), (17, .iload_n 1, 18, []), (18, .iconst 1, 19, []), (19, .bastore, 20, []), (20, .return_, 21, [])])
/-- TapeVaultLaw.tape(LTapeVault;III[J)I -/
def mi_72 : MI := (⟨"TapeVaultLaw", "tape", "(LTapeVault;III[J)I"⟩, method_11_code, 6, (some FieldType.int), [(0, 11, 14, 13), (0, 11, 18, 21), (0, 11, 22, 19)], [
  (0, .aload 4, 2, []), (2, .iconst 0, 3, []), (3, .aload_n 0, 4, []), (4, .iload_n 1, 5, []), (5, .iload_n 2, 6, []), (6, .iload_n 3, 7, []), (7, .invokevirtual 47, 10, [9, 3, 73, 0, 665, 666, 667, 39, 668]), 
  (10, .lastore, 11, []), (11, .goto 15, 14, [26]), (14, .astore 5, 16, []), (16, .iconst 1, 17, []), (17, .ireturn, 18, []), (18, .astore 5, 20, []), (20, .iconst 2, 21, []), (21, .ireturn, 22, []), 
  (22, .astore 5, 24, []), (24, .iconst 3, 25, []), (25, .ireturn, 26, []), (26, .iconst 0, 27, []), (27, .ireturn, 28, [])])
/-- TapeVault.tape(III)J -/
def mi_73 : MI := (⟨"TapeVault", "tape", "(III)J"⟩, prog_1_method_10_code, 5, (some FieldType.long), [], [
  (0, .iload_n 3, 1, []), (1, .ifCond .lt 9, 4, [10]), (4, .iload_n 3, 5, []), (5, .bipush 8, 7, []), (7, .if_icmp .lt 11, 10, [18]), (10, .new 51, 13, [50, 0, 53, 263]), (18, .aload_n 0, 19, []), 
  (19, .getfield 19, 22, [49, 0, 1]), (22, .iload_n 1, 23, []), (23, .iload_n 2, 24, []), (24, .invokevirtual 169, 27, [2, 2, 70, 2, 654, 655, 656, 42, 657]), (27, .istore 4, 29, []), (29, .iload 4, 31, []), 
  (31, .iconst (-1), 32, []), (32, .if_icmp .ne 11, 35, [43]), (35, .new 74, 38, [50, 2, 76, 373]), (43, .aload_n 0, 44, []), (44, .getfield 19, 47, [49, 0, 1]), (47, .iload 4, 49, []), 
  (49, .invokevirtual 176, 52, [2, 1, 74, 2, 669, 670, 671, 42, 672]), (52, .ifCond .eq 11, 55, [63]), (55, .new 67, 58, [50, 1, 69, 354]), (63, .aload_n 0, 64, []), (64, .getfield 19, 67, [49, 0, 1]), 
  (67, .iload 4, 69, []), (69, .iload_n 3, 70, []), (70, .invokevirtual 179, 73, [2, 2, 75, 2, 673, 674, 675, 42, 676]), (73, .lreturn, 74, [])])
/-- TapeVault$Volumes.isSpoiledAt(I)Z -/
def mi_74 : MI := (⟨"TapeVault$Volumes", "isSpoiledAt", "(I)Z"⟩, prog_7_method_11_code, 2, (some FieldType.boolean), [], [
  (0, .iload_n 1, 1, []), (1, .ifCond .lt 25, 4, [26]), (4, .iload_n 1, 5, []), (5, .aload_n 0, 6, []), (6, .getfield 15, 9, [6, 2, 1]), (9, .arraylength, 10, []), (10, .if_icmp .ge 16, 13, [26]), (13, .aload_n 0, 14, []), 
  (14, .getfield 15, 17, [6, 2, 1]), (17, .iload_n 1, 18, []), (18, .baload, 19, []), (19, .ifCond .eq 7, 22, [26]), (22, .iconst 1, 23, []), (23, .goto 4, 26, [27]), (26, .iconst 0, 27, []), (27, .ireturn, 28, [])])
/-- TapeVault$Volumes.wordAt(II)J -/
def mi_75 : MI := (⟨"TapeVault$Volumes", "wordAt", "(II)J"⟩, prog_7_method_9_code, 4, (some FieldType.long), [], [
  (0, .iload_n 1, 1, []), (1, .bipush 8, 3, []), (3, .imul, 4, []), (4, .iload_n 2, 5, []), (5, .iadd, 6, []), (6, .istore_n 3, 7, []), (7, .iload_n 3, 8, []), (8, .ifCond .lt 12, 11, [20]), (11, .iload_n 3, 12, []), 
  (12, .aload_n 0, 13, []), (13, .getfield 9, 16, [5, 2, 0]), (16, .arraylength, 17, []), (17, .if_icmp .lt 7, 20, [24]), (20, .lconst 0, 21, []), (21, .goto 9, 24, [30]), (24, .aload_n 0, 25, []), 
  (25, .getfield 9, 28, [5, 2, 0]), (28, .iload_n 3, 29, []), (29, .laload, 30, []), (30, .lreturn, 31, [])])
/-- TapeVaultLaw.restore(LTapeVault;I[J)I -/
def mi_76 : MI := (⟨"TapeVaultLaw", "restore", "(LTapeVault;I[J)I"⟩, method_12_code, 4, (some FieldType.int), [(0, 9, 12, 21)], [
  (0, .aload_n 2, 1, []), (1, .iconst 0, 2, []), (2, .aload_n 0, 3, []), (3, .iload_n 1, 4, []), (4, .invokevirtual 51, 7, [9, 1, 77, 0, 680, 681, 682, 39, 683]), (7, .i2l, 8, []), (8, .lastore, 9, []), 
  (9, .goto 6, 12, [15]), (12, .astore_n 3, 13, []), (13, .iconst 1, 14, []), (14, .ireturn, 15, []), (15, .iconst 0, 16, []), (16, .ireturn, 17, [])])
/-- TapeVault.restore(I)I -/
def mi_77 : MI := (⟨"TapeVault", "restore", "(I)I"⟩, prog_1_method_11_code, 3, (some FieldType.int), [], [
  (0, .iload_n 1, 1, []), (1, .ifCond .lt 11, 4, [12]), (4, .iload_n 1, 5, []), (5, .aload_n 0, 6, []), (6, .getfield 121, 9, [53, 0, 5]), (9, .if_icmp .lt 7, 12, [16]), (12, .aconst_null, 13, []), (13, .goto 9, 16, [22]), 
  (16, .aload_n 0, 17, []), (17, .getfield 43, 20, [52, 0, 4]), (20, .iload_n 1, 21, []), (21, .aaload, 22, []), (22, .astore_n 2, 23, []), (23, .aload_n 2, 24, []), (24, .ifnonnull 11, 27, [35]), 
  (27, .new 74, 30, [50, 2, 76, 373]), (35, .aload_n 0, 36, []), (36, .getfield 37, 39, [51, 0, 3]), (39, .aload_n 2, 40, []), (40, .invokevirtual 183, 43, [2, 1, 78, 4, 684, 685, 686, 44, 687]), (43, .ireturn, 44, [])])
/-- TapeVault$Restored.bringBack(LTapeVault$Dump;)I -/
def mi_78 : MI := (⟨"TapeVault$Restored", "bringBack", "(LTapeVault$Dump;)I"⟩, prog_4_method_4_code, 4, (some FieldType.int), [], [
  (0, .aload_n 0, 1, []), (1, .invokevirtual 44, 4, [2, 0, 10, 4, 688, 229, 230, 44, 231]), (4, .aload_n 0, 5, []), (5, .aload_n 1, 6, []), (6, .getfield 47, 9, [65, 6, 4]), (9, .putfield 30, 12, [19, 4, 5]), 
  (12, .iconst 0, 13, []), (13, .istore_n 2, 14, []), (14, .iload_n 2, 15, []), (15, .aload_n 0, 16, []), (16, .getfield 30, 19, [19, 4, 5]), (19, .if_icmp .ge 23, 22, [42]), (22, .aload_n 0, 23, []), 
  (23, .aload_n 1, 24, []), (24, .iload_n 2, 25, []), (25, .invokevirtual 50, 28, [2, 1, 79, 6, 689, 690, 691, 55, 692]), (28, .invokevirtual 54, 31, [2, 1, 80, 4, 693, 695, 12, 44, 696]), (31, .ifCond .ne 5, 34, [36]), 
  (34, .iconst 2, 35, []), (35, .ireturn, 36, []), (36, .iinc 2 1, 39, []), (39, .goto (-25), 42, [14]), (42, .aload_n 0, 43, []), (43, .getfield 30, 46, [19, 4, 5]), (46, .iconst 1, 47, []), (47, .isub, 48, []), 
  (48, .istore_n 2, 49, []), (49, .iload_n 2, 50, []), (50, .ifCond .lt 39, 53, [89]), (53, .aload_n 1, 54, []), (54, .iload_n 2, 55, []), (55, .invokevirtual 50, 58, [2, 1, 79, 6, 689, 690, 691, 55, 692]), 
  (58, .astore_n 3, 59, []), (59, .aload_n 0, 60, []), (60, .aload_n 3, 61, []), (61, .invokevirtual 58, 64, [2, 1, 83, 4, 707, 709, 14, 44, 710]), (64, .aload_n 0, 65, []), (65, .aload_n 3, 66, []), 
  (66, .invokevirtual 62, 69, [2, 1, 86, 4, 721, 723, 15, 44, 724]), (69, .aload_n 0, 70, []), (70, .dup, 71, []), (71, .getfield 37, 74, [23, 4, 7]), (74, .aload_n 0, 75, []), (75, .aload_n 3, 76, []), 
  (76, .invokevirtual 65, 79, [2, 1, 89, 4, 734, 736, 17, 44, 737]), (79, .iadd, 80, []), (80, .putfield 37, 83, [23, 4, 7]), (83, .iinc 2 (-1), 86, []), (86, .goto (-37), 89, [49]), (89, .aload_n 0, 90, []), 
  (90, .iconst 1, 91, []), (91, .putfield 26, 94, [18, 4, 4]), (94, .aload_n 0, 95, []), (95, .aload_n 0, 96, []), (96, .invokevirtual 69, 99, [2, 0, 90, 4, 738, 740, 18, 44, 741]), (99, .putfield 34, 102, [21, 4, 6]), 
  (102, .aload_n 0, 103, []), (103, .getfield 34, 106, [21, 4, 6]), (106, .ifCond .ne 7, 109, [113]), (109, .iconst 0, 110, []), (110, .goto 4, 113, [114]), (113, .iconst 1, 114, []), (114, .ireturn, 115, [])])
/-- TapeVault$Dump.chained(I)LTapeVault$Dump; -/
def mi_79 : MI := (⟨"TapeVault$Dump", "chained", "(I)LTapeVault$Dump;"⟩, prog_2_method_6_code, 4, (some (FieldType.object "TapeVault$Dump")), [], [
  (0, .aload_n 0, 1, []), (1, .astore_n 2, 2, []), (2, .iconst 0, 3, []), (3, .istore_n 3, 4, []), (4, .iload_n 3, 5, []), (5, .iload_n 1, 6, []), (6, .if_icmp .ge 21, 9, [27]), (9, .aload_n 2, 10, []), 
  (10, .getfield 21, 13, [62, 6, 3]), (13, .ifnull 14, 16, [27]), (16, .aload_n 2, 17, []), (17, .getfield 21, 20, [62, 6, 3]), (20, .astore_n 2, 21, []), (21, .iinc 3 1, 24, []), (24, .goto (-20), 27, [4]), 
  (27, .aload_n 2, 28, []), (28, .areturn, 29, [])])
/-- TapeVault$Restored.isReadable(LTapeVault$Dump;)Z -/
def mi_80 : MI := (⟨"TapeVault$Restored", "isReadable", "(LTapeVault$Dump;)Z"⟩, prog_4_method_5_code, 3, (some FieldType.boolean), [], [
  (0, .iconst 0, 1, []), (1, .istore_n 2, 2, []), (2, .iload_n 2, 3, []), (3, .aload_n 1, 4, []), (4, .invokevirtual 73, 7, [2, 0, 49, 6, 697, 549, 550, 55, 551]), (7, .if_icmp .ge 27, 10, [34]), (10, .aload_n 0, 11, []), 
  (11, .getfield 22, 14, [14, 4, 0]), (14, .aload_n 1, 15, []), (15, .getfield 76, 18, [71, 6, 6]), (18, .iload_n 2, 19, []), (19, .iadd, 20, []), (20, .invokevirtual 79, 23, [2, 1, 81, 2, 698, 699, 700, 42, 701]), 
  (23, .ifCond .eq 5, 26, [28]), (26, .iconst 0, 27, []), (27, .ireturn, 28, []), (28, .iinc 2 1, 31, []), (31, .goto (-29), 34, [2]), (34, .iconst 1, 35, []), (35, .ireturn, 36, [])])
/-- TapeVault$Volumes.isSpoiled(I)Z -/
def mi_81 : MI := (⟨"TapeVault$Volumes", "isSpoiled", "(I)Z"⟩, prog_7_method_12_code, 2, (some FieldType.boolean), [], [
  (0, .aload_n 0, 1, []), (1, .aload_n 0, 2, []), (2, .iload_n 1, 3, []), (3, .invokevirtual 54, 6, [2, 1, 82, 2, 702, 704, 13, 42, 705]), (6, .invokevirtual 64, 9, [2, 1, 74, 2, 706, 670, 671, 42, 672]), 
  (9, .ireturn, 10, [])])
/-- TapeVault$Volumes.positionOfBlock(I)I -/
def mi_82 : MI := (⟨"TapeVault$Volumes", "positionOfBlock", "(I)I"⟩, prog_7_method_13_code, 3, (some FieldType.int), [], [
  (0, .aload_n 0, 1, []), (1, .getfield 19, 4, [7, 2, 2]), (4, .iconst 1, 5, []), (5, .isub, 6, []), (6, .istore_n 2, 7, []), (7, .iload_n 1, 8, []), (8, .iload_n 2, 9, []), (9, .idiv, 10, []), (10, .aload_n 0, 11, []), 
  (11, .getfield 19, 14, [7, 2, 2]), (14, .imul, 15, []), (15, .iconst 1, 16, []), (16, .iadd, 17, []), (17, .iload_n 1, 18, []), (18, .iload_n 2, 19, []), (19, .irem, 20, []), (20, .iadd, 21, []), (21, .ireturn, 22, [])])
/-- TapeVault$Restored.dropUnmapped(LTapeVault$Dump;)V -/
def mi_83 : MI := (⟨"TapeVault$Restored", "dropUnmapped", "(LTapeVault$Dump;)V"⟩, prog_4_method_7_code, 4, (none), [], [
  (0, .iconst 0, 1, []), (1, .istore_n 2, 2, []), (2, .iload_n 2, 3, []), (3, .sipush 256, 6, []), (6, .if_icmp .ge 47, 9, [53]), (9, .aload_n 0, 10, []), (10, .getfield 22, 13, [14, 4, 0]), (13, .aload_n 1, 14, []), 
  (14, .invokevirtual 88, 17, [2, 0, 84, 6, 711, 712, 713, 55, 714]), (17, .iconst 1, 18, []), (18, .iload_n 2, 19, []), (19, .bipush 8, 21, []), (21, .idiv, 22, []), (22, .iadd, 23, []), (23, .iconst 1, 24, []), 
  (24, .invokevirtual 91, 27, [2, 3, 85, 2, 715, 716, 717, 42, 718]), (27, .istore_n 3, 28, []), (28, .iload_n 3, 29, []), (29, .bipush 7, 31, []), (31, .iload_n 2, 32, []), (32, .bipush 8, 34, []), (34, .irem, 35, []), 
  (35, .isub, 36, []), (36, .ishr, 37, []), (37, .iconst 1, 38, []), (38, .iand, 39, []), (39, .ifCond .ne 8, 42, [47]), (42, .aload_n 0, 43, []), (43, .iload_n 2, 44, []), 
  (44, .invokevirtual 40, 47, [2, 1, 11, 4, 232, 234, 1, 44, 235]), (47, .iinc 2 1, 50, []), (50, .goto (-48), 53, [2]), (53, .return_, 54, [])])
/-- TapeVault$Dump.mapBlock()I -/
def mi_84 : MI := (⟨"TapeVault$Dump", "mapBlock", "()I"⟩, prog_2_method_3_code, 1, (some FieldType.int), [], [
  (0, .aload_n 0, 1, []), (1, .getfield 28, 4, [70, 6, 6]), (4, .iconst 1, 5, []), (5, .iadd, 6, []), (6, .ireturn, 7, [])])
/-- TapeVault$Volumes.number(III)I -/
def mi_85 : MI := (⟨"TapeVault$Volumes", "number", "(III)I"⟩, prog_7_method_8_code, 9, (some FieldType.int), [], [
  (0, .aload_n 0, 1, []), (1, .iload_n 1, 2, []), (2, .invokevirtual 54, 5, [2, 1, 82, 2, 702, 704, 13, 42, 705]), (5, .istore 4, 7, []), (7, .iconst 0, 8, []), (8, .istore 5, 10, []), (10, .iload_n 2, 11, []), 
  (11, .istore 6, 13, []), (13, .iload 6, 15, []), (15, .iload_n 2, 16, []), (16, .iload_n 3, 17, []), (17, .iadd, 18, []), (18, .if_icmp .ge 49, 21, [67]), (21, .aload_n 0, 22, []), (22, .iload 4, 24, []), 
  (24, .iload 6, 26, []), (26, .bipush 8, 28, []), (28, .idiv, 29, []), (29, .invokevirtual 58, 32, [2, 2, 75, 2, 719, 674, 675, 42, 676]), (32, .bipush 56, 34, []), (34, .bipush 8, 36, []), (36, .iload 6, 38, []), 
  (38, .bipush 8, 40, []), (40, .irem, 41, []), (41, .imul, 42, []), (42, .isub, 43, []), (43, .lushr, 44, []), (44, .lstore 7, 46, []), (46, .iload 5, 48, []), (48, .bipush 8, 50, []), (50, .ishl, 51, []), 
  (51, .lload 7, 53, []), (53, .ldc2_w 62, 56, [0]), (56, .land, 57, []), (57, .l2i, 58, []), (58, .ior, 59, []), (59, .istore 5, 61, []), (61, .iinc 6 1, 64, []), (64, .goto (-51), 67, [13]), (67, .iload 5, 69, []), 
  (69, .ireturn, 70, [])])
/-- TapeVault$Restored.takeChanged(LTapeVault$Dump;)V -/
def mi_86 : MI := (⟨"TapeVault$Restored", "takeChanged", "(LTapeVault$Dump;)V"⟩, prog_4_method_8_code, 7, (none), [], [
  (0, .aload_n 1, 1, []), (1, .getfield 76, 4, [71, 6, 6]), (4, .aload_n 1, 5, []), (5, .invokevirtual 73, 8, [2, 0, 49, 6, 697, 549, 550, 55, 551]), (8, .iadd, 9, []), (9, .istore_n 2, 10, []), (10, .iconst 0, 11, []), 
  (11, .istore_n 3, 12, []), (12, .iload_n 3, 13, []), (13, .aload_n 1, 14, []), (14, .getfield 95, 17, [68, 6, 5]), (17, .if_icmp .ge 70, 20, [87]), (20, .aload_n 1, 21, []), 
  (21, .invokevirtual 98, 24, [2, 0, 87, 6, 725, 726, 727, 55, 728]), (24, .iload_n 3, 25, []), (25, .bipush 31, 27, []), (27, .idiv, 28, []), (28, .iadd, 29, []), (29, .istore 4, 31, []), (31, .iconst 2, 32, []), 
  (32, .iconst 2, 33, []), (33, .iload_n 3, 34, []), (34, .bipush 31, 36, []), (36, .irem, 37, []), (37, .imul, 38, []), (38, .iadd, 39, []), (39, .istore 5, 41, []), (41, .aload_n 0, 42, []), 
  (42, .getfield 22, 45, [14, 4, 0]), (45, .iload 4, 47, []), (47, .iload 5, 49, []), (49, .iconst 1, 50, []), (50, .iadd, 51, []), (51, .iconst 1, 52, []), 
  (52, .invokevirtual 91, 55, [2, 3, 85, 2, 715, 716, 717, 42, 718]), (55, .istore 6, 57, []), (57, .aload_n 0, 58, []), (58, .aload_n 0, 59, []), (59, .getfield 22, 62, [14, 4, 0]), (62, .iload 4, 64, []), 
  (64, .iload 5, 66, []), (66, .iconst 1, 67, []), (67, .invokevirtual 91, 70, [2, 3, 85, 2, 715, 716, 717, 42, 718]), (70, .iload_n 2, 71, []), (71, .iload 6, 73, []), 
  (73, .invokevirtual 101, 76, [2, 3, 88, 4, 729, 731, 16, 44, 732]), (76, .iload_n 2, 77, []), (77, .iload 6, 79, []), (79, .iadd, 80, []), (80, .istore_n 2, 81, []), (81, .iinc 3 1, 84, []), (84, .goto (-72), 87, [12]), 
  (87, .return_, 88, [])])
/-- TapeVault$Dump.firstIndexBlock()I -/
def mi_87 : MI := (⟨"TapeVault$Dump", "firstIndexBlock", "()I"⟩, prog_2_method_4_code, 1, (some FieldType.int), [], [
  (0, .aload_n 0, 1, []), (1, .getfield 28, 4, [70, 6, 6]), (4, .iconst 2, 5, []), (5, .iadd, 6, []), (6, .ireturn, 7, [])])
/-- TapeVault$Restored.takeNode(III)V -/
def mi_88 : MI := (⟨"TapeVault$Restored", "takeNode", "(III)V"⟩, prog_4_method_9_code, 5, (none), [], [
  (0, .iload_n 1, 1, []), (1, .invokestatic 105, 4, [1, 1, 18, 733, 345, 39, 346]), (4, .ifCond .ne 4, 7, [8]), (7, .return_, 8, []), (8, .aload_n 0, 9, []), (9, .getfield 22, 12, [14, 4, 0]), (12, .iload_n 2, 13, []), 
  (13, .invokevirtual 79, 16, [2, 1, 81, 2, 698, 699, 700, 42, 701]), (16, .ifCond .eq 11, 19, [27]), (19, .aload_n 0, 20, []), (20, .getfield 18, 23, [17, 4, 3]), (23, .iload_n 1, 24, []), (24, .iconst 1, 25, []), 
  (25, .bastore, 26, []), (26, .return_, 27, []), (27, .aload_n 0, 28, []), (28, .getfield 9, 31, [15, 4, 1]), (31, .iload_n 1, 32, []), (32, .iload_n 2, 33, []), (33, .iastore, 34, []), (34, .aload_n 0, 35, []), 
  (35, .getfield 15, 38, [16, 4, 2]), (38, .iload_n 1, 39, []), (39, .iconst 0, 40, []), (40, .iastore, 41, []), (41, .iconst 0, 42, []), (42, .istore 4, 44, []), (44, .iload 4, 46, []), (46, .iload_n 3, 47, []), 
  (47, .iconst 1, 48, []), (48, .isub, 49, []), (49, .if_icmp .ge 38, 52, [87]), (52, .aload_n 0, 53, []), (53, .getfield 22, 56, [14, 4, 0]), (56, .iload_n 2, 57, []), (57, .iconst 1, 58, []), (58, .iadd, 59, []), 
  (59, .iload 4, 61, []), (61, .iadd, 62, []), (62, .invokevirtual 79, 65, [2, 1, 81, 2, 698, 699, 700, 42, 701]), (65, .ifCond .eq 16, 68, [81]), (68, .aload_n 0, 69, []), (69, .getfield 15, 72, [16, 4, 2]), 
  (72, .iload_n 1, 73, []), (73, .dup2, 74, []), (74, .iaload, 75, []), (75, .iconst 1, 76, []), (76, .iload 4, 78, []), (78, .ishl, 79, []), (79, .ior, 80, []), (80, .iastore, 81, []), (81, .iinc 4 1, 84, []), 
  (84, .goto (-40), 87, [44]), (87, .aload_n 0, 88, []), (88, .getfield 18, 91, [17, 4, 3]), (91, .iload_n 1, 92, []), (92, .aload_n 0, 93, []), (93, .getfield 15, 96, [16, 4, 2]), (96, .iload_n 1, 97, []), 
  (97, .iaload, 98, []), (98, .ifCond .eq 7, 101, [105]), (101, .iconst 1, 102, []), (102, .goto 4, 105, [106]), (105, .iconst 0, 106, []), (106, .bastore, 107, []), (107, .return_, 108, [])])
/-- TapeVault$Restored.wholeBlocks(LTapeVault$Dump;)I -/
def mi_89 : MI := (⟨"TapeVault$Restored", "wholeBlocks", "(LTapeVault$Dump;)I"⟩, prog_4_method_6_code, 4, (some FieldType.int), [], [
  (0, .iconst 0, 1, []), (1, .istore_n 2, 2, []), (2, .iconst 0, 3, []), (3, .istore_n 3, 4, []), (4, .iload_n 3, 5, []), (5, .aload_n 1, 6, []), (6, .getfield 85, 9, [73, 6, 7]), (9, .if_icmp .ge 28, 12, [37]), 
  (12, .aload_n 0, 13, []), (13, .getfield 22, 16, [14, 4, 0]), (16, .aload_n 1, 17, []), (17, .getfield 76, 20, [71, 6, 6]), (20, .iload_n 3, 21, []), (21, .iadd, 22, []), 
  (22, .invokevirtual 79, 25, [2, 1, 81, 2, 698, 699, 700, 42, 701]), (25, .ifCond .ne 6, 28, [31]), (28, .iinc 2 1, 31, []), (31, .iinc 3 1, 34, []), (34, .goto (-30), 37, [4]), (37, .iload_n 2, 38, []), 
  (38, .ireturn, 39, [])])
/-- TapeVault$Restored.countLost()I -/
def mi_90 : MI := (⟨"TapeVault$Restored", "countLost", "()I"⟩, prog_4_method_10_code, 3, (some FieldType.int), [], [
  (0, .iconst 0, 1, []), (1, .istore_n 1, 2, []), (2, .iconst 0, 3, []), (3, .istore_n 2, 4, []), (4, .iload_n 2, 5, []), (5, .sipush 256, 8, []), (8, .if_icmp .ge 21, 11, [29]), (11, .aload_n 0, 12, []), 
  (12, .getfield 18, 15, [17, 4, 3]), (15, .iload_n 2, 16, []), (16, .baload, 17, []), (17, .ifCond .eq 6, 20, [23]), (20, .iinc 1 1, 23, []), (23, .iinc 2 1, 26, []), (26, .goto (-22), 29, [4]), (29, .iload_n 1, 30, []), 
  (30, .ireturn, 31, [])])
/-- TapeVaultLaw.node(LTapeVault;ZII[J)I -/
def mi_91 : MI := (⟨"TapeVaultLaw", "node", "(LTapeVault;ZII[J)I"⟩, method_13_code, 6, (some FieldType.int), [(0, 12, 15, 13), (0, 12, 19, 19), (0, 12, 23, 21)], [
  (0, .aload 4, 2, []), (2, .iconst 0, 3, []), (3, .aload_n 0, 4, []), (4, .iload_n 1, 5, []), (5, .iload_n 2, 6, []), (6, .iload_n 3, 7, []), (7, .invokevirtual 54, 10, [9, 3, 92, 0, 745, 746, 747, 39, 748]), 
  (10, .i2l, 11, []), (11, .lastore, 12, []), (12, .goto 15, 15, [27]), (15, .astore 5, 17, []), (17, .iconst 1, 18, []), (18, .ireturn, 19, []), (19, .astore 5, 21, []), (21, .iconst 2, 22, []), (22, .ireturn, 23, []), 
  (23, .astore 5, 25, []), (25, .iconst 3, 26, []), (26, .ireturn, 27, []), (27, .iconst 0, 28, []), (28, .ireturn, 29, [])])
/-- TapeVault.node(ZII)I -/
def mi_92 : MI := (⟨"TapeVault", "node", "(ZII)I"⟩, prog_1_method_12_code, 5, (some FieldType.int), [], [
  (0, .iload_n 3, 1, []), (1, .ifCond .lt 8, 4, [9]), (4, .iload_n 3, 5, []), (5, .iconst 5, 6, []), (6, .if_icmp .le 11, 9, [17]), (9, .new 51, 12, [50, 0, 53, 263]), (17, .aload_n 0, 18, []), (18, .iload_n 1, 19, []), 
  (19, .invokevirtual 187, 22, [2, 1, 93, 0, 749, 751, 19, 39, 752]), (22, .astore 4, 24, []), (24, .aload 4, 26, []), (26, .invokevirtual 191, 29, [6, 0, 95, 94, 753, 755, 754, 759, 760, 41, 761, 756, 757, 44, 758]), 
  (29, .ifCond .ne 11, 32, [40]), (32, .new 67, 35, [50, 1, 69, 354]), (40, .iload_n 2, 41, []), (41, .invokestatic 196, 44, [0, 1, 18, 762, 345, 39, 346]), (44, .ifCond .ne 11, 47, [55]), 
  (47, .new 74, 50, [50, 2, 76, 373]), (55, .aload 4, 57, []), (57, .iload_n 2, 58, []), (58, .iload_n 3, 59, []), (59, .invokevirtual 199, 62, [6, 2, 97, 96, 763, 765, 764, 769, 770, 41, 771, 766, 767, 44, 768]), 
  (62, .ireturn, 63, [])])
/-- TapeVault.viewOf(Z)LTapeVault$View; -/
def mi_93 : MI := (⟨"TapeVault", "viewOf", "(Z)LTapeVault$View;"⟩, prog_1_method_17_code, 2, (some (FieldType.object "TapeVault$View")), [], [
  (0, .iload_n 1, 1, []), (1, .ifCond .eq 10, 4, [11]), (4, .aload_n 0, 5, []), (5, .getfield 37, 8, [51, 0, 3]), (8, .goto 7, 11, [15]), (11, .aload_n 0, 12, []), (12, .getfield 10, 15, [48, 0, 0]), (15, .areturn, 16, [])])
/-- TapeVault$Restored.isThere()Z -/
def mi_94 : MI := (⟨"TapeVault$Restored", "isThere", "()Z"⟩, prog_4_method_11_code, 1, (some FieldType.boolean), [], [
  (0, .aload_n 0, 1, []), (1, .getfield 26, 4, [18, 4, 4]), (4, .ireturn, 5, [])])
/-- TapeVault$Tree.isThere()Z -/
def mi_95 : MI := (⟨"TapeVault$Tree", "isThere", "()Z"⟩, prog_5_method_16_code, 1, (some FieldType.boolean), [], [
  (0, .iconst 1, 1, []), (1, .ireturn, 2, [])])
/-- TapeVault$Restored.fact(II)I -/
def mi_96 : MI := (⟨"TapeVault$Restored", "fact", "(II)I"⟩, prog_4_method_12_code, 4, (some FieldType.int), [], [
  (0, .iload_n 1, 1, []), (1, .invokestatic 105, 4, [1, 1, 18, 733, 345, 39, 346]), (4, .ifCond .ne 5, 7, [9]), (7, .iconst 0, 8, []), (8, .ireturn, 9, []), (9, .iload_n 2, 10, []), (10, .iconst 5, 11, []), 
  (11, .if_icmp .ne 18, 14, [29]), (14, .aload_n 0, 15, []), (15, .getfield 18, 18, [17, 4, 3]), (18, .iload_n 1, 19, []), (19, .baload, 20, []), (20, .ifCond .eq 7, 23, [27]), (23, .iconst 1, 24, []), 
  (24, .goto 4, 27, [28]), (27, .iconst 0, 28, []), (28, .ireturn, 29, []), (29, .aload_n 0, 30, []), (30, .getfield 9, 33, [15, 4, 1]), (33, .iload_n 1, 34, []), (34, .iaload, 35, []), (35, .istore_n 3, 36, []), 
  (36, .iload_n 3, 37, []), (37, .iconst (-1), 38, []), (38, .if_icmp .ne 5, 41, [43]), (41, .iconst 0, 42, []), (42, .ireturn, 43, []), (43, .iload_n 2, 44, []), 
  (44, .tableswitch 93 0 4 #[36, 47, 58, 69, 81], 80, [137, 80, 91, 102, 113, 125]), (80, .aload_n 0, 81, []), (81, .getfield 22, 84, [14, 4, 0]), (84, .iload_n 3, 85, []), (85, .iconst 2, 86, []), (86, .iconst 1, 87, []), 
  (87, .invokevirtual 91, 90, [2, 3, 85, 2, 715, 716, 717, 42, 718]), (90, .ireturn, 91, []), (91, .aload_n 0, 92, []), (92, .getfield 22, 95, [14, 4, 0]), (95, .iload_n 3, 96, []), (96, .iconst 5, 97, []), 
  (97, .iconst 1, 98, []), (98, .invokevirtual 91, 101, [2, 3, 85, 2, 715, 716, 717, 42, 718]), (101, .ireturn, 102, []), (102, .aload_n 0, 103, []), (103, .getfield 22, 106, [14, 4, 0]), (106, .iload_n 3, 107, []), 
  (107, .iconst 3, 108, []), (108, .iconst 2, 109, []), (109, .invokevirtual 91, 112, [2, 3, 85, 2, 715, 716, 717, 42, 718]), (112, .ireturn, 113, []), (113, .aload_n 0, 114, []), (114, .getfield 22, 117, [14, 4, 0]), 
  (117, .iload_n 3, 118, []), (118, .bipush 6, 120, []), (120, .iconst 2, 121, []), (121, .invokevirtual 91, 124, [2, 3, 85, 2, 715, 716, 717, 42, 718]), (124, .ireturn, 125, []), (125, .aload_n 0, 126, []), 
  (126, .getfield 22, 129, [14, 4, 0]), (129, .iload_n 3, 130, []), (130, .bipush 8, 132, []), (132, .iconst 4, 133, []), (133, .invokevirtual 91, 136, [2, 3, 85, 2, 715, 716, 717, 42, 718]), (136, .ireturn, 137, []), 
  (137, .iconst 0, 138, []), (138, .ireturn, 139, [])])
/-- TapeVault$Tree.fact(II)I -/
def mi_97 : MI := (⟨"TapeVault$Tree", "fact", "(II)I"⟩, prog_5_method_17_code, 4, (some FieldType.int), [], [
  (0, .aload_n 0, 1, []), (1, .iload_n 1, 2, []), (2, .invokevirtual 31, 5, [2, 1, 17, 1, 340, 341, 342, 41, 343]), (5, .astore_n 3, 6, []), (6, .aload_n 3, 7, []), (7, .ifnonnull 5, 10, [12]), (10, .iconst 0, 11, []), 
  (11, .ireturn, 12, []), (12, .iload_n 2, 13, []), (13, .tableswitch 60 0 4 #[35, 40, 45, 50, 55], 48, [73, 48, 53, 58, 63, 68]), (48, .aload_n 3, 49, []), (49, .getfield 35, 52, [29, 5, 1]), (52, .ireturn, 53, []), 
  (53, .aload_n 3, 54, []), (54, .invokevirtual 74, 57, [2, 0, 64, 5, 772, 632, 633, 45, 634]), (57, .ireturn, 58, []), (58, .aload_n 3, 59, []), (59, .getfield 77, 62, [36, 5, 3]), (62, .ireturn, 63, []), 
  (63, .aload_n 3, 64, []), (64, .getfield 49, 67, [40, 5, 4]), (67, .ireturn, 68, []), (68, .aload_n 3, 69, []), (69, .getfield 42, 72, [42, 5, 5]), (72, .ireturn, 73, []), (73, .iconst 0, 74, []), (74, .ireturn, 75, [])])
/-- TapeVaultLaw.octet(LTapeVault;ZII[J)I -/
def mi_98 : MI := (⟨"TapeVaultLaw", "octet", "(LTapeVault;ZII[J)I"⟩, method_14_code, 6, (some FieldType.int), [(0, 12, 15, 19), (0, 12, 19, 13), (0, 12, 23, 21)], [
  (0, .aload 4, 2, []), (2, .iconst 0, 3, []), (3, .aload_n 0, 4, []), (4, .iload_n 1, 5, []), (5, .iload_n 2, 6, []), (6, .iload_n 3, 7, []), (7, .invokevirtual 58, 10, [9, 3, 99, 0, 776, 777, 778, 39, 779]), 
  (10, .i2l, 11, []), (11, .lastore, 12, []), (12, .goto 15, 15, [27]), (15, .astore 5, 17, []), (17, .iconst 1, 18, []), (18, .ireturn, 19, []), (19, .astore 5, 21, []), (21, .iconst 2, 22, []), (22, .ireturn, 23, []), 
  (23, .astore 5, 25, []), (25, .iconst 3, 26, []), (26, .ireturn, 27, []), (27, .iconst 0, 28, []), (28, .ireturn, 29, [])])
/-- TapeVault.octet(ZII)I -/
def mi_99 : MI := (⟨"TapeVault", "octet", "(ZII)I"⟩, prog_1_method_13_code, 5, (some FieldType.int), [], [
  (0, .aload_n 0, 1, []), (1, .iload_n 1, 2, []), (2, .invokevirtual 187, 5, [2, 1, 93, 0, 749, 751, 19, 39, 752]), (5, .astore 4, 7, []), (7, .aload 4, 9, []), 
  (9, .invokevirtual 191, 12, [6, 0, 95, 94, 753, 755, 754, 759, 760, 41, 761, 756, 757, 44, 758]), (12, .ifCond .ne 11, 15, [23]), (15, .new 67, 18, [50, 1, 69, 354]), (23, .aload 4, 25, []), (25, .iload_n 2, 26, []), 
  (26, .iconst 0, 27, []), (27, .invokevirtual 199, 30, [6, 2, 97, 96, 763, 765, 764, 769, 770, 41, 771, 766, 767, 44, 768]), (30, .iconst 1, 31, []), (31, .if_icmp .eq 11, 34, [42]), (34, .new 51, 37, [50, 0, 53, 263]), 
  (42, .iload_n 3, 43, []), (43, .ifCond .lt 14, 46, [57]), (46, .iload_n 3, 47, []), (47, .aload 4, 49, []), (49, .iload_n 2, 50, []), (50, .iconst 3, 51, []), 
  (51, .invokevirtual 199, 54, [6, 2, 97, 96, 763, 765, 764, 769, 770, 41, 771, 766, 767, 44, 768]), (54, .if_icmp .lt 11, 57, [65]), (57, .new 74, 60, [50, 2, 76, 373]), (65, .aload 4, 67, []), (67, .iload_n 2, 68, []), 
  (68, .iload_n 3, 69, []), (69, .invokevirtual 202, 72, [6, 2, 102, 100, 780, 782, 781, 790, 791, 41, 792, 783, 784, 44, 785]), (72, .ireturn, 73, [])])
/-- TapeVault$Restored.octetOf(II)I -/
def mi_100 : MI := (⟨"TapeVault$Restored", "octetOf", "(II)I"⟩, prog_4_method_14_code, 4, (some FieldType.int), [], [
  (0, .iload_n 1, 1, []), (1, .invokestatic 105, 4, [1, 1, 18, 733, 345, 39, 346]), (4, .ifCond .eq 13, 7, [17]), (7, .aload_n 0, 8, []), (8, .getfield 9, 11, [15, 4, 1]), (11, .iload_n 1, 12, []), (12, .iaload, 13, []), 
  (13, .iconst (-1), 14, []), (14, .if_icmp .ne 5, 17, [19]), (17, .iconst 0, 18, []), (18, .ireturn, 19, []), (19, .iload_n 2, 20, []), (20, .bipush 64, 22, []), (22, .idiv, 23, []), (23, .istore_n 3, 24, []), 
  (24, .aload_n 0, 25, []), (25, .iload_n 1, 26, []), (26, .iload_n 3, 27, []), (27, .invokevirtual 108, 30, [2, 2, 101, 4, 786, 788, 20, 44, 789]), (30, .ifCond .eq 28, 33, [58]), (33, .aload_n 0, 34, []), 
  (34, .getfield 22, 37, [14, 4, 0]), (37, .aload_n 0, 38, []), (38, .getfield 9, 41, [15, 4, 1]), (41, .iload_n 1, 42, []), (42, .iaload, 43, []), (43, .iconst 1, 44, []), (44, .iadd, 45, []), (45, .iload_n 3, 46, []), 
  (46, .iadd, 47, []), (47, .iload_n 2, 48, []), (48, .bipush 64, 50, []), (50, .irem, 51, []), (51, .iconst 1, 52, []), (52, .invokevirtual 91, 55, [2, 3, 85, 2, 715, 716, 717, 42, 718]), (55, .goto 4, 58, [59]), 
  (58, .iconst 0, 59, []), (59, .ireturn, 60, [])])
/-- TapeVault$Restored.wasRead(II)Z -/
def mi_101 : MI := (⟨"TapeVault$Restored", "wasRead", "(II)Z"⟩, prog_4_method_13_code, 3, (some FieldType.boolean), [], [
  (0, .aload_n 0, 1, []), (1, .getfield 15, 4, [16, 4, 2]), (4, .iload_n 1, 5, []), (5, .iaload, 6, []), (6, .iload_n 2, 7, []), (7, .ishr, 8, []), (8, .iconst 1, 9, []), (9, .iand, 10, []), (10, .ifCond .ne 7, 13, [17]), 
  (13, .iconst 1, 14, []), (14, .goto 4, 17, [18]), (17, .iconst 0, 18, []), (18, .ireturn, 19, [])])
/-- TapeVault$Tree.octetOf(II)I -/
def mi_102 : MI := (⟨"TapeVault$Tree", "octetOf", "(II)I"⟩, prog_5_method_18_code, 4, (some FieldType.int), [], [
  (0, .aload_n 0, 1, []), (1, .iload_n 1, 2, []), (2, .invokevirtual 80, 5, [2, 1, 26, 1, 793, 404, 405, 41, 406]), (5, .astore_n 3, 6, []), (6, .aload_n 3, 7, []), (7, .ifnonnull 7, 10, [14]), (10, .iconst 0, 11, []), 
  (11, .goto 8, 14, [19]), (14, .aload_n 3, 15, []), (15, .iload_n 2, 16, []), (16, .invokevirtual 83, 19, [2, 1, 66, 5, 794, 640, 641, 45, 642]), (19, .ireturn, 20, [])])
/-- TapeVaultLaw.find(LTapeVault;ZII[J)I -/
def mi_103 : MI := (⟨"TapeVaultLaw", "find", "(LTapeVault;ZII[J)I"⟩, method_15_code, 6, (some FieldType.int), [(0, 12, 15, 19), (0, 12, 19, 13)], [
  (0, .aload 4, 2, []), (2, .iconst 0, 3, []), (3, .aload_n 0, 4, []), (4, .iload_n 1, 5, []), (5, .iload_n 2, 6, []), (6, .iload_n 3, 7, []), (7, .invokevirtual 61, 10, [9, 3, 104, 0, 798, 799, 800, 39, 801]), 
  (10, .i2l, 11, []), (11, .lastore, 12, []), (12, .goto 11, 15, [23]), (15, .astore 5, 17, []), (17, .iconst 1, 18, []), (18, .ireturn, 19, []), (19, .astore 5, 21, []), (21, .iconst 2, 22, []), (22, .ireturn, 23, []), 
  (23, .iconst 0, 24, []), (24, .ireturn, 25, [])])
/-- TapeVault.find(ZII)I -/
def mi_104 : MI := (⟨"TapeVault", "find", "(ZII)I"⟩, prog_1_method_14_code, 5, (some FieldType.int), [], [
  (0, .aload_n 0, 1, []), (1, .iload_n 1, 2, []), (2, .invokevirtual 187, 5, [2, 1, 93, 0, 749, 751, 19, 39, 752]), (5, .astore 4, 7, []), (7, .aload 4, 9, []), 
  (9, .invokevirtual 191, 12, [6, 0, 95, 94, 753, 755, 754, 759, 760, 41, 761, 756, 757, 44, 758]), (12, .ifCond .ne 11, 15, [23]), (15, .new 67, 18, [50, 1, 69, 354]), (23, .aload 4, 25, []), (25, .iload_n 2, 26, []), 
  (26, .iconst 0, 27, []), (27, .invokevirtual 199, 30, [6, 2, 97, 96, 763, 765, 764, 769, 770, 41, 771, 766, 767, 44, 768]), (30, .iconst 2, 31, []), (31, .if_icmp .eq 11, 34, [42]), (34, .new 51, 37, [50, 0, 53, 263]), 
  (42, .aload 4, 44, []), (44, .iload_n 2, 45, []), (45, .iload_n 3, 46, []), (46, .invokevirtual 205, 49, [6, 2, 106, 105, 802, 804, 803, 809, 810, 41, 811, 805, 806, 44, 807]), (49, .ireturn, 50, [])])
/-- TapeVault$Restored.entryNamed(II)I -/
def mi_105 : MI := (⟨"TapeVault$Restored", "entryNamed", "(II)I"⟩, prog_4_method_15_code, 8, (some FieldType.int), [], [
  (0, .iload_n 1, 1, []), (1, .invokestatic 105, 4, [1, 1, 18, 733, 345, 39, 346]), (4, .ifCond .eq 13, 7, [17]), (7, .aload_n 0, 8, []), (8, .getfield 9, 11, [15, 4, 1]), (11, .iload_n 1, 12, []), (12, .iaload, 13, []), 
  (13, .iconst (-1), 14, []), (14, .if_icmp .ne 5, 17, [19]), (17, .iconst (-1), 18, []), (18, .ireturn, 19, []), (19, .aload_n 0, 20, []), (20, .iload_n 1, 21, []), (21, .iconst 3, 22, []), 
  (22, .invokevirtual 112, 25, [2, 2, 96, 4, 808, 767, 1123, 44, 768]), (25, .istore_n 3, 26, []), (26, .iconst 0, 27, []), (27, .istore 4, 29, []), (29, .iload 4, 31, []), (31, .iload_n 3, 32, []), 
  (32, .if_icmp .ge 79, 35, [111]), (35, .iload 4, 37, []), (37, .bipush 21, 39, []), (39, .idiv, 40, []), (40, .istore 5, 42, []), (42, .aload_n 0, 43, []), (43, .getfield 9, 46, [15, 4, 1]), (46, .iload_n 1, 47, []), 
  (47, .iaload, 48, []), (48, .iconst 1, 49, []), (49, .iadd, 50, []), (50, .iload 5, 52, []), (52, .iadd, 53, []), (53, .istore 6, 55, []), (55, .iconst 3, 56, []), (56, .iload 4, 58, []), (58, .bipush 21, 60, []), 
  (60, .irem, 61, []), (61, .imul, 62, []), (62, .istore 7, 64, []), (64, .aload_n 0, 65, []), (65, .iload_n 1, 66, []), (66, .iload 5, 68, []), (68, .invokevirtual 108, 71, [2, 2, 101, 4, 786, 788, 20, 44, 789]), 
  (71, .ifCond .eq 34, 74, [105]), (74, .aload_n 0, 75, []), (75, .getfield 22, 78, [14, 4, 0]), (78, .iload 6, 80, []), (80, .iload 7, 82, []), (82, .iconst 2, 83, []), 
  (83, .invokevirtual 91, 86, [2, 3, 85, 2, 715, 716, 717, 42, 718]), (86, .iload_n 2, 87, []), (87, .if_icmp .ne 18, 90, [105]), (90, .aload_n 0, 91, []), (91, .getfield 22, 94, [14, 4, 0]), (94, .iload 6, 96, []), 
  (96, .iload 7, 98, []), (98, .iconst 2, 99, []), (99, .iadd, 100, []), (100, .iconst 1, 101, []), (101, .invokevirtual 91, 104, [2, 3, 85, 2, 715, 716, 717, 42, 718]), (104, .ireturn, 105, []), (105, .iinc 4 1, 108, []), 
  (108, .goto (-79), 111, [29]), (111, .iconst (-1), 112, []), (112, .ireturn, 113, [])])
/-- TapeVault$Tree.entryNamed(II)I -/
def mi_106 : MI := (⟨"TapeVault$Tree", "entryNamed", "(II)I"⟩, prog_5_method_19_code, 5, (some FieldType.int), [], [
  (0, .aload_n 0, 1, []), (1, .iload_n 1, 2, []), (2, .invokevirtual 87, 5, [2, 1, 16, 1, 812, 337, 338, 41, 339]), (5, .astore_n 3, 6, []), (6, .aload_n 3, 7, []), (7, .ifnonnull 7, 10, [14]), (10, .aconst_null, 11, []), 
  (11, .goto 8, 14, [19]), (14, .aload_n 3, 15, []), (15, .iload_n 2, 16, []), (16, .invokevirtual 90, 19, [2, 1, 20, 5, 813, 351, 352, 45, 353]), (19, .astore 4, 21, []), (21, .aload 4, 23, []), 
  (23, .ifnonnull 7, 26, [30]), (26, .iconst (-1), 27, []), (27, .goto 8, 30, [35]), (30, .aload 4, 32, []), (32, .getfield 56, 35, [27, 5, 0]), (35, .ireturn, 36, [])])
/-- TapeVaultLaw.count(LTapeVault;I[J)I -/
def mi_107 : MI := (⟨"TapeVaultLaw", "count", "(LTapeVault;I[J)I"⟩, method_16_code, 4, (some FieldType.int), [(0, 9, 12, 13)], [
  (0, .aload_n 2, 1, []), (1, .iconst 0, 2, []), (2, .aload_n 0, 3, []), (3, .iload_n 1, 4, []), (4, .invokevirtual 64, 7, [9, 1, 108, 0, 817, 818, 819, 39, 820]), (7, .i2l, 8, []), (8, .lastore, 9, []), 
  (9, .goto 6, 12, [15]), (12, .astore_n 3, 13, []), (13, .iconst 1, 14, []), (14, .ireturn, 15, []), (15, .iconst 0, 16, []), (16, .ireturn, 17, [])])
/-- TapeVault.count(I)I -/
def mi_108 : MI := (⟨"TapeVault", "count", "(I)I"⟩, prog_1_method_15_code, 2, (some FieldType.int), [], [
  (0, .iload_n 1, 1, []), (1, .tableswitch 108 0 7 #[47, 55, 63, 68, 76, 84, 92, 100], 48, [109, 48, 56, 64, 69, 77, 85, 93, 101]), (48, .aload_n 0, 49, []), (49, .getfield 10, 52, [48, 0, 0]), 
  (52, .getfield 124, 55, [4, 1, 2]), (55, .ireturn, 56, []), (56, .aload_n 0, 57, []), (57, .getfield 10, 60, [48, 0, 0]), (60, .getfield 208, 63, [2, 1, 1]), (63, .ireturn, 64, []), (64, .aload_n 0, 65, []), 
  (65, .getfield 121, 68, [53, 0, 5]), (68, .ireturn, 69, []), (69, .aload_n 0, 70, []), (70, .getfield 19, 73, [49, 0, 1]), (73, .invokevirtual 211, 76, [2, 0, 109, 2, 821, 822, 823, 42, 824]), (76, .ireturn, 77, []), 
  (77, .aload_n 0, 78, []), (78, .getfield 19, 81, [49, 0, 1]), (81, .getfield 214, 84, [9, 2, 3]), (84, .ireturn, 85, []), (85, .aload_n 0, 86, []), (86, .getfield 37, 89, [51, 0, 3]), (89, .getfield 217, 92, [20, 4, 5]), 
  (92, .ireturn, 93, []), (93, .aload_n 0, 94, []), (94, .getfield 37, 97, [51, 0, 3]), (97, .getfield 220, 100, [22, 4, 6]), (100, .ireturn, 101, []), (101, .aload_n 0, 102, []), (102, .getfield 37, 105, [51, 0, 3]), 
  (105, .getfield 223, 108, [24, 4, 7]), (108, .ireturn, 109, []), (109, .new 51, 112, [50, 0, 53, 263])])
/-- TapeVault$Volumes.volumesWritten()I -/
def mi_109 : MI := (⟨"TapeVault$Volumes", "volumesWritten", "()I"⟩, prog_7_method_3_code, 1, (some FieldType.int), [], [
  (0, .aload_n 0, 1, []), (1, .getfield 29, 4, [8, 2, 3]), (4, .aload_n 0, 5, []), (5, .getfield 19, 8, [7, 2, 2]), (8, .invokestatic 35, 11, [1, 2, 50, 568, 553, 39, 554]), (11, .ireturn, 12, [])])
/-- TapeVaultModel.<init>()V -/
def mi_110 : MI := (⟨"TapeVaultModel", "<init>", "()V"⟩, prog_10_method_1_code, 1, (none), [], [
  (0, .aload_n 0, 1, []), (1, .invokespecial 1, 4, [10, 830, 64, 65]), (4, .aload_n 0, 5, []), (5, .sipush 256, 8, []), (8, .newarray .int, 10, []), (10, .putfield 9, 13, [76, 7, 1]), (13, .aload_n 0, 14, []), 
  (14, .sipush 256, 17, []), (17, .newarray .int, 19, []), (19, .putfield 13, 22, [77, 7, 2]), (22, .aload_n 0, 23, []), (23, .sipush 256, 26, []), (26, .newarray .int, 28, []), (28, .putfield 16, 31, [78, 7, 3]), 
  (31, .aload_n 0, 32, []), (32, .sipush 256, 35, []), (35, .newarray .int, 37, []), (37, .putfield 19, 40, [79, 7, 4]), (40, .aload_n 0, 41, []), (41, .sipush 256, 44, []), (44, .newarray .int, 46, []), 
  (46, .putfield 22, 49, [80, 7, 5]), (49, .aload_n 0, 50, []), (50, .sipush 256, 53, []), (53, .sipush 512, 56, []), (56, .multianewarray 25 2, 60, [6, 831]), (60, .putfield 27, 63, [81, 7, 6]), (63, .aload_n 0, 64, []), 
  (64, .bipush 100, 66, []), (66, .newarray .int, 68, []), (68, .putfield 30, 71, [85, 7, 10]), (71, .aload_n 0, 72, []), (72, .bipush 100, 74, []), (74, .newarray .int, 76, []), (76, .putfield 33, 79, [86, 7, 11]), 
  (79, .aload_n 0, 80, []), (80, .bipush 100, 82, []), (82, .newarray .int, 84, []), (84, .putfield 36, 87, [87, 7, 12]), (87, .aload_n 0, 88, []), (88, .bipush 101, 90, []), (90, .newarray .int, 92, []), 
  (92, .putfield 39, 95, [88, 7, 13]), (95, .aload_n 0, 96, []), (96, .bipush 101, 98, []), (98, .newarray .int, 100, []), (100, .putfield 42, 103, [89, 7, 14]), (103, .aload_n 0, 104, []), (104, .bipush 100, 106, []), 
  (106, .sipush 256, 109, []), (109, .multianewarray 45 2, 113, [7, 833]), (113, .putfield 47, 116, [90, 7, 15]), (116, .aload_n 0, 117, []), (117, .sipush 4000, 120, []), (120, .newarray .int, 122, []), 
  (122, .putfield 50, 125, [92, 7, 17]), (125, .aload_n 0, 126, []), (126, .sipush 4000, 129, []), (129, .newarray .int, 131, []), (131, .putfield 53, 134, [93, 7, 18]), (134, .aload_n 0, 135, []), 
  (135, .sipush 4000, 138, []), (138, .newarray .int, 140, []), (140, .putfield 56, 143, [94, 7, 19]), (143, .aload_n 0, 144, []), (144, .sipush 4000, 147, []), (147, .newarray .int, 149, []), 
  (149, .putfield 59, 152, [95, 7, 20]), (152, .aload_n 0, 153, []), (153, .sipush 4000, 156, []), (156, .newarray .int, 158, []), (158, .putfield 62, 161, [96, 7, 21]), (161, .aload_n 0, 162, []), 
  (162, .sipush 4000, 165, []), (165, .newarray .int, 167, []), (167, .putfield 65, 170, [97, 7, 22]), (170, .aload_n 0, 171, []), (171, .sipush 4000, 174, []), (174, .newarray .int, 176, []), 
  (176, .putfield 68, 179, [98, 7, 23]), (179, .aload_n 0, 180, []), (180, .ldc 71, 182, [0]), (182, .newarray .byte, 184, []), (184, .putfield 72, 187, [99, 7, 24]), (187, .aload_n 0, 188, []), (188, .ldc 76, 190, [1]), 
  (190, .newarray .int, 192, []), (192, .putfield 77, 195, [100, 7, 25]), (195, .aload_n 0, 196, []), (196, .ldc 76, 198, [1]), (198, .newarray .int, 200, []), (200, .putfield 80, 203, [101, 7, 26]), 
  (203, .aload_n 0, 204, []), (204, .sipush 4001, 207, []), (207, .newarray .boolean, 209, []), (209, .putfield 83, 212, [105, 7, 30]), (212, .aload_n 0, 213, []), (213, .sipush 4001, 216, []), 
  (216, .newarray .boolean, 218, []), (218, .putfield 87, 221, [106, 7, 31]), (221, .aload_n 0, 222, []), (222, .sipush 256, 225, []), (225, .newarray .int, 227, []), (227, .putfield 90, 230, [107, 7, 32]), 
  (230, .aload_n 0, 231, []), (231, .sipush 256, 234, []), (234, .newarray .int, 236, []), (236, .putfield 93, 239, [108, 7, 33]), (239, .aload_n 0, 240, []), (240, .sipush 256, 243, []), (243, .newarray .int, 245, []), 
  (245, .putfield 96, 248, [109, 7, 34]), (248, .aload_n 0, 249, []), (249, .sipush 256, 252, []), (252, .newarray .int, 254, []), (254, .putfield 99, 257, [110, 7, 35]), (257, .aload_n 0, 258, []), 
  (258, .sipush 256, 261, []), (261, .newarray .int, 263, []), (263, .putfield 102, 266, [111, 7, 36]), (266, .aload_n 0, 267, []), (267, .sipush 256, 270, []), (270, .newarray .int, 272, []), 
  (272, .putfield 105, 275, [112, 7, 37]), (275, .aload_n 0, 276, []), (276, .sipush 256, 279, []), (279, .newarray .boolean, 281, []), (281, .putfield 108, 284, [113, 7, 38]), (284, .aload_n 0, 285, []), 
  (285, .sipush 256, 288, []), (288, .sipush 512, 291, []), (291, .multianewarray 25 2, 295, [6, 831]), (295, .putfield 111, 298, [114, 7, 39]), (298, .aload_n 0, 299, []), (299, .sipush 256, 302, []), 
  (302, .sipush 256, 305, []), (305, .multianewarray 114 2, 309, [8, 837]), (309, .putfield 116, 312, [115, 7, 40]), (312, .aload_n 0, 313, []), (313, .sipush 256, 316, []), (316, .sipush 256, 319, []), 
  (319, .multianewarray 114 2, 323, [8, 837]), (323, .putfield 119, 326, [116, 7, 41]), (326, .aload_n 0, 327, []), (327, .bipush 64, 329, []), (329, .newarray .int, 331, []), (331, .putfield 122, 334, [121, 7, 46]), 
  (334, .aload_n 0, 335, []), (335, .bipush 64, 337, []), (337, .invokevirtual 125, 340, [2, 1, 111, 7, 839, 840, 841, 47, 842]), (340, .return_, 341, [])])
/-- TapeVaultModel.begin(I)V -/
def mi_111 : MI := (⟨"TapeVaultModel", "begin", "(I)V"⟩, prog_10_method_4_code, 3, (none), [], [
  (0, .aload_n 0, 1, []), (1, .iload_n 1, 2, []), (2, .iconst 4, 3, []), (3, .if_icmp .lt 10, 6, [13]), (6, .iload_n 1, 7, []), (7, .sipush 1000, 10, []), (10, .if_icmp .le 7, 13, [17]), (13, .iconst 1, 14, []), 
  (14, .goto 4, 17, [18]), (17, .iconst 0, 18, []), (18, .iconst 1, 19, []), (19, .invokevirtual 133, 22, [2, 2, 112, 7, 843, 845, 21, 47, 846]), (22, .ifCond .eq 4, 25, [26]), (25, .return_, 26, []), 
  (26, .iconst 0, 27, []), (27, .istore_n 2, 28, []), (28, .iload_n 2, 29, []), (29, .sipush 256, 32, []), (32, .if_icmp .ge 16, 35, [48]), (35, .aload_n 0, 36, []), (36, .getfield 9, 39, [76, 7, 1]), 
  (39, .iload_n 2, 40, []), (40, .iconst 0, 41, []), (41, .iastore, 42, []), (42, .iinc 2 1, 45, []), (45, .goto (-17), 48, [28]), (48, .aload_n 0, 49, []), (49, .getfield 9, 52, [76, 7, 1]), (52, .iconst 0, 53, []), 
  (53, .iconst 2, 54, []), (54, .iastore, 55, []), (55, .aload_n 0, 56, []), (56, .getfield 13, 59, [77, 7, 2]), (59, .iconst 0, 60, []), (60, .iconst 0, 61, []), (61, .iastore, 62, []), (62, .aload_n 0, 63, []), 
  (63, .getfield 16, 66, [78, 7, 3]), (66, .iconst 0, 67, []), (67, .iconst 0, 68, []), (68, .iastore, 69, []), (69, .aload_n 0, 70, []), (70, .getfield 22, 73, [80, 7, 5]), (73, .iconst 0, 74, []), (74, .iconst 0, 75, []), 
  (75, .iastore, 76, []), (76, .aload_n 0, 77, []), (77, .iconst 0, 78, []), (78, .putfield 137, 81, [82, 7, 7]), (81, .aload_n 0, 82, []), (82, .iload_n 1, 83, []), (83, .putfield 140, 86, [83, 7, 8]), 
  (86, .aload_n 0, 87, []), (87, .iconst 0, 88, []), (88, .putfield 143, 91, [84, 7, 9]), (91, .aload_n 0, 92, []), (92, .iconst 0, 93, []), (93, .putfield 146, 96, [91, 7, 16]), (96, .aload_n 0, 97, []), 
  (97, .iconst 0, 98, []), (98, .putfield 149, 101, [102, 7, 27]), (101, .aload_n 0, 102, []), (102, .iconst 0, 103, []), (103, .putfield 152, 106, [103, 7, 28]), (106, .aload_n 0, 107, []), (107, .iconst 0, 108, []), 
  (108, .putfield 155, 111, [104, 7, 29]), (111, .iconst 0, 112, []), (112, .istore_n 2, 113, []), (113, .iload_n 2, 114, []), (114, .sipush 4000, 117, []), (117, .if_icmp .gt 23, 120, [140]), (120, .aload_n 0, 121, []), 
  (121, .getfield 83, 124, [105, 7, 30]), (124, .iload_n 2, 125, []), (125, .iconst 0, 126, []), (126, .bastore, 127, []), (127, .aload_n 0, 128, []), (128, .getfield 87, 131, [106, 7, 31]), (131, .iload_n 2, 132, []), 
  (132, .iconst 0, 133, []), (133, .bastore, 134, []), (134, .iinc 2 1, 137, []), (137, .goto (-24), 140, [113]), (140, .aload_n 0, 141, []), (141, .iconst 0, 142, []), (142, .putfield 158, 145, [117, 7, 42]), 
  (145, .aload_n 0, 146, []), (146, .iconst 0, 147, []), (147, .putfield 162, 150, [118, 7, 43]), (150, .aload_n 0, 151, []), (151, .iconst 0, 152, []), (152, .putfield 165, 155, [119, 7, 44]), (155, .aload_n 0, 156, []), 
  (156, .iconst 0, 157, []), (157, .putfield 168, 160, [120, 7, 45]), (160, .return_, 161, [])])
/-- TapeVaultModel.fails(ZI)Z -/
def mi_112 : MI := (⟨"TapeVaultModel", "fails", "(ZI)Z"⟩, prog_10_method_3_code, 3, (some FieldType.boolean), [], [
  (0, .aload_n 0, 1, []), (1, .iload_n 1, 2, []), (2, .ifCond .eq 7, 5, [9]), (5, .iload_n 2, 6, []), (6, .goto 4, 9, [10]), (9, .iconst 0, 10, []), (10, .putfield 129, 13, [75, 7, 0]), (13, .iload_n 1, 14, []), 
  (14, .ireturn, 15, [])])
/-- TapeVaultModel.thrown()I -/
def mi_113 : MI := (⟨"TapeVaultModel", "thrown", "()I"⟩, prog_10_method_2_code, 1, (some FieldType.int), [], [
  (0, .aload_n 0, 1, []), (1, .getfield 129, 4, [75, 7, 0]), (4, .ireturn, 5, [])])
/-- TapeVaultModel.make(IIZ)I -/
def mi_114 : MI := (⟨"TapeVaultModel", "make", "(IIZ)I"⟩, prog_10_method_7_code, 5, (some FieldType.int), [], [
  (0, .aload_n 0, 1, []), (1, .aload_n 0, 2, []), (2, .iload_n 1, 3, []), (3, .iconst 2, 4, []), (4, .invokevirtual 171, 7, [2, 2, 115, 7, 1001, 1003, 22, 47, 1004]), (7, .ifCond .eq 15, 10, [22]), (10, .iload_n 2, 11, []), 
  (11, .iconst 1, 12, []), (12, .if_icmp .lt 10, 15, [22]), (15, .iload_n 2, 16, []), (16, .sipush 30000, 19, []), (19, .if_icmp .le 7, 22, [26]), (22, .iconst 1, 23, []), (23, .goto 4, 26, [27]), (26, .iconst 0, 27, []), 
  (27, .iconst 1, 28, []), (28, .invokevirtual 133, 31, [2, 2, 112, 7, 843, 845, 21, 47, 846]), (31, .ifCond .eq 5, 34, [36]), (34, .iconst 0, 35, []), (35, .ireturn, 36, []), (36, .aload_n 0, 37, []), 
  (37, .aload_n 0, 38, []), (38, .iload_n 1, 39, []), (39, .iload_n 2, 40, []), (40, .invokevirtual 175, 43, [2, 2, 116, 7, 1005, 1007, 23, 47, 1008]), (43, .ifCond .lt 7, 46, [50]), (46, .iconst 1, 47, []), 
  (47, .goto 4, 50, [51]), (50, .iconst 0, 51, []), (51, .iconst 2, 52, []), (52, .invokevirtual 133, 55, [2, 2, 112, 7, 843, 845, 21, 47, 846]), (55, .ifCond .eq 5, 58, [60]), (58, .iconst 0, 59, []), 
  (59, .ireturn, 60, []), (60, .iconst 1, 61, []), (61, .istore 4, 63, []), (63, .iload 4, 65, []), (65, .sipush 256, 68, []), (68, .if_icmp .ge 19, 71, [87]), (71, .aload_n 0, 72, []), (72, .getfield 9, 75, [76, 7, 1]), 
  (75, .iload 4, 77, []), (77, .iaload, 78, []), (78, .ifCond .eq 9, 81, [87]), (81, .iinc 4 1, 84, []), (84, .goto (-21), 87, [63]), (87, .aload_n 0, 88, []), (88, .iload 4, 90, []), (90, .sipush 256, 93, []), 
  (93, .if_icmp .ne 7, 96, [100]), (96, .iconst 1, 97, []), (97, .goto 4, 100, [101]), (100, .iconst 0, 101, []), (101, .iconst 3, 102, []), (102, .invokevirtual 133, 105, [2, 2, 112, 7, 843, 845, 21, 47, 846]), 
  (105, .ifCond .eq 5, 108, [110]), (108, .iconst 0, 109, []), (109, .ireturn, 110, []), (110, .aload_n 0, 111, []), (111, .dup, 112, []), (112, .getfield 137, 115, [82, 7, 7]), (115, .iconst 1, 116, []), 
  (116, .iadd, 117, []), (117, .putfield 137, 120, [82, 7, 7]), (120, .aload_n 0, 121, []), (121, .getfield 9, 124, [76, 7, 1]), (124, .iload 4, 126, []), (126, .iload_n 3, 127, []), (127, .ifCond .eq 7, 130, [134]), 
  (130, .iconst 2, 131, []), (131, .goto 4, 134, [135]), (134, .iconst 1, 135, []), (135, .iastore, 136, []), (136, .aload_n 0, 137, []), (137, .getfield 13, 140, [77, 7, 2]), (140, .iload 4, 142, []), 
  (142, .iload_n 1, 143, []), (143, .iastore, 144, []), (144, .aload_n 0, 145, []), (145, .getfield 16, 148, [78, 7, 3]), (148, .iload 4, 150, []), (150, .iload_n 2, 151, []), (151, .iastore, 152, []), 
  (152, .aload_n 0, 153, []), (153, .getfield 19, 156, [79, 7, 4]), (156, .iload 4, 158, []), (158, .iconst 0, 159, []), (159, .iastore, 160, []), (160, .aload_n 0, 161, []), (161, .getfield 22, 164, [80, 7, 5]), 
  (164, .iload 4, 166, []), (166, .aload_n 0, 167, []), (167, .getfield 137, 170, [82, 7, 7]), (170, .iastore, 171, []), (171, .aload_n 0, 172, []), (172, .getfield 22, 175, [80, 7, 5]), (175, .iload_n 1, 176, []), 
  (176, .aload_n 0, 177, []), (177, .getfield 137, 180, [82, 7, 7]), (180, .iastore, 181, []), (181, .iload 4, 183, []), (183, .ireturn, 184, [])])
/-- TapeVaultModel.is(II)Z -/
def mi_115 : MI := (⟨"TapeVaultModel", "is", "(II)Z"⟩, prog_10_method_5_code, 3, (some FieldType.boolean), [], [
  (0, .iload_n 1, 1, []), (1, .ifCond .lt 24, 4, [25]), (4, .iload_n 1, 5, []), (5, .sipush 256, 8, []), (8, .if_icmp .ge 17, 11, [25]), (11, .aload_n 0, 12, []), (12, .getfield 9, 15, [76, 7, 1]), (15, .iload_n 1, 16, []), 
  (16, .iaload, 17, []), (17, .iload_n 2, 18, []), (18, .if_icmp .ne 7, 21, [25]), (21, .iconst 1, 22, []), (22, .goto 4, 25, [26]), (25, .iconst 0, 26, []), (26, .ireturn, 27, [])])
/-- TapeVaultModel.named(II)I -/
def mi_116 : MI := (⟨"TapeVaultModel", "named", "(II)I"⟩, prog_10_method_6_code, 4, (some FieldType.int), [], [
  (0, .iconst 1, 1, []), (1, .istore_n 3, 2, []), (2, .iload_n 3, 3, []), (3, .sipush 256, 6, []), (6, .if_icmp .ge 40, 9, [46]), (9, .aload_n 0, 10, []), (10, .getfield 9, 13, [76, 7, 1]), (13, .iload_n 3, 14, []), 
  (14, .iaload, 15, []), (15, .ifCond .eq 25, 18, [40]), (18, .aload_n 0, 19, []), (19, .getfield 13, 22, [77, 7, 2]), (22, .iload_n 3, 23, []), (23, .iaload, 24, []), (24, .iload_n 1, 25, []), 
  (25, .if_icmp .ne 15, 28, [40]), (28, .aload_n 0, 29, []), (29, .getfield 16, 32, [78, 7, 3]), (32, .iload_n 3, 33, []), (33, .iaload, 34, []), (34, .iload_n 2, 35, []), (35, .if_icmp .ne 5, 38, [40]), 
  (38, .iload_n 3, 39, []), (39, .ireturn, 40, []), (40, .iinc 3 1, 43, []), (43, .goto (-41), 46, [2]), (46, .iconst (-1), 47, []), (47, .ireturn, 48, [])])
/-- TapeVaultModel.write(IIJ)I -/
def mi_117 : MI := (⟨"TapeVaultModel", "write", "(IIJ)I"⟩, prog_10_method_8_code, 6, (some FieldType.int), [], [
  (0, .aload_n 0, 1, []), (1, .aload_n 0, 2, []), (2, .iload_n 1, 3, []), (3, .iconst 1, 4, []), (4, .invokevirtual 171, 7, [2, 2, 115, 7, 1001, 1003, 22, 47, 1004]), (7, .ifCond .ne 7, 10, [14]), (10, .iconst 1, 11, []), 
  (11, .goto 4, 14, [15]), (14, .iconst 0, 15, []), (15, .iconst 1, 16, []), (16, .invokevirtual 133, 19, [2, 2, 112, 7, 843, 845, 21, 47, 846]), (19, .ifCond .eq 5, 22, [24]), (22, .iconst 0, 23, []), 
  (23, .ireturn, 24, []), (24, .aload_n 0, 25, []), (25, .iload_n 2, 26, []), (26, .ifCond .lt 20, 29, [46]), (29, .iload_n 2, 30, []), (30, .aload_n 0, 31, []), (31, .getfield 19, 34, [79, 7, 4]), (34, .iload_n 1, 35, []), 
  (35, .iaload, 36, []), (36, .if_icmp .gt 10, 39, [46]), (39, .iload_n 2, 40, []), (40, .sipush 504, 43, []), (43, .if_icmp .le 7, 46, [50]), (46, .iconst 1, 47, []), (47, .goto 4, 50, [51]), (50, .iconst 0, 51, []), 
  (51, .iconst 2, 52, []), (52, .invokevirtual 133, 55, [2, 2, 112, 7, 843, 845, 21, 47, 846]), (55, .ifCond .eq 5, 58, [60]), (58, .iconst 0, 59, []), (59, .ireturn, 60, []), (60, .iconst 0, 61, []), 
  (61, .istore 5, 63, []), (63, .iload 5, 65, []), (65, .bipush 8, 67, []), (67, .if_icmp .ge 32, 70, [99]), (70, .aload_n 0, 71, []), (71, .getfield 27, 74, [81, 7, 6]), (74, .iload_n 1, 75, []), (75, .aaload, 76, []), 
  (76, .iload_n 2, 77, []), (77, .iload 5, 79, []), (79, .iadd, 80, []), (80, .lload_n 3, 81, []), (81, .bipush 56, 83, []), (83, .bipush 8, 85, []), (85, .iload 5, 87, []), (87, .imul, 88, []), (88, .isub, 89, []), 
  (89, .lshr, 90, []), (90, .l2i, 91, []), (91, .i2b, 92, []), (92, .bastore, 93, []), (93, .iinc 5 1, 96, []), (96, .goto (-33), 99, [63]), (99, .aload_n 0, 100, []), (100, .getfield 19, 103, [79, 7, 4]), 
  (103, .iload_n 1, 104, []), (104, .aload_n 0, 105, []), (105, .getfield 19, 108, [79, 7, 4]), (108, .iload_n 1, 109, []), (109, .iaload, 110, []), (110, .iload_n 2, 111, []), (111, .bipush 8, 113, []), 
  (113, .iadd, 114, []), (114, .invokestatic 179, 117, [11, 1013, 226, 46, 227]), (117, .iastore, 118, []), (118, .aload_n 0, 119, []), (119, .getfield 22, 122, [80, 7, 5]), (122, .iload_n 1, 123, []), 
  (123, .aload_n 0, 124, []), (124, .dup, 125, []), (125, .getfield 137, 128, [82, 7, 7]), (128, .iconst 1, 129, []), (129, .iadd, 130, []), (130, .dup_x1, 131, []), (131, .putfield 137, 134, [82, 7, 7]), 
  (134, .iastore, 135, []), (135, .aload_n 0, 136, []), (136, .getfield 19, 139, [79, 7, 4]), (139, .iload_n 1, 140, []), (140, .iaload, 141, []), (141, .ireturn, 142, [])])
/-- TapeVaultModel.cut(II)V -/
def mi_118 : MI := (⟨"TapeVaultModel", "cut", "(II)V"⟩, prog_10_method_9_code, 3, (none), [], [
  (0, .aload_n 0, 1, []), (1, .aload_n 0, 2, []), (2, .iload_n 1, 3, []), (3, .iconst 1, 4, []), (4, .invokevirtual 171, 7, [2, 2, 115, 7, 1001, 1003, 22, 47, 1004]), (7, .ifCond .ne 7, 10, [14]), (10, .iconst 1, 11, []), 
  (11, .goto 4, 14, [15]), (14, .iconst 0, 15, []), (15, .iconst 1, 16, []), (16, .invokevirtual 133, 19, [2, 2, 112, 7, 843, 845, 21, 47, 846]), (19, .ifCond .eq 4, 22, [23]), (22, .return_, 23, []), 
  (23, .aload_n 0, 24, []), (24, .iload_n 2, 25, []), (25, .ifCond .lt 13, 28, [38]), (28, .iload_n 2, 29, []), (29, .aload_n 0, 30, []), (30, .getfield 19, 33, [79, 7, 4]), (33, .iload_n 1, 34, []), (34, .iaload, 35, []), 
  (35, .if_icmp .le 7, 38, [42]), (38, .iconst 1, 39, []), (39, .goto 4, 42, [43]), (42, .iconst 0, 43, []), (43, .iconst 2, 44, []), (44, .invokevirtual 133, 47, [2, 2, 112, 7, 843, 845, 21, 47, 846]), 
  (47, .ifCond .eq 4, 50, [51]), (50, .return_, 51, []), (51, .aload_n 0, 52, []), (52, .getfield 19, 55, [79, 7, 4]), (55, .iload_n 1, 56, []), (56, .iload_n 2, 57, []), (57, .iastore, 58, []), (58, .aload_n 0, 59, []), 
  (59, .getfield 22, 62, [80, 7, 5]), (62, .iload_n 1, 63, []), (63, .aload_n 0, 64, []), (64, .dup, 65, []), (65, .getfield 137, 68, [82, 7, 7]), (68, .iconst 1, 69, []), (69, .iadd, 70, []), (70, .dup_x1, 71, []), 
  (71, .putfield 137, 74, [82, 7, 7]), (74, .iastore, 75, []), (75, .return_, 76, [])])
/-- TapeVaultModel.move(III)V -/
def mi_119 : MI := (⟨"TapeVaultModel", "move", "(III)V"⟩, prog_10_method_10_code, 6, (none), [], [
  (0, .aload_n 0, 1, []), (1, .iload_n 1, 2, []), (2, .iconst 1, 3, []), (3, .if_icmp .lt 40, 6, [43]), (6, .iload_n 1, 7, []), (7, .sipush 256, 10, []), (10, .if_icmp .ge 33, 13, [43]), (13, .aload_n 0, 14, []), 
  (14, .getfield 9, 17, [76, 7, 1]), (17, .iload_n 1, 18, []), (18, .iaload, 19, []), (19, .ifCond .eq 24, 22, [43]), (22, .aload_n 0, 23, []), (23, .iload_n 2, 24, []), (24, .iconst 2, 25, []), 
  (25, .invokevirtual 171, 28, [2, 2, 115, 7, 1001, 1003, 22, 47, 1004]), (28, .ifCond .eq 15, 31, [43]), (31, .iload_n 3, 32, []), (32, .iconst 1, 33, []), (33, .if_icmp .lt 10, 36, [43]), (36, .iload_n 3, 37, []), 
  (37, .sipush 30000, 40, []), (40, .if_icmp .le 7, 43, [47]), (43, .iconst 1, 44, []), (44, .goto 4, 47, [48]), (47, .iconst 0, 48, []), (48, .iconst 1, 49, []), 
  (49, .invokevirtual 133, 52, [2, 2, 112, 7, 843, 845, 21, 47, 846]), (52, .ifCond .eq 4, 55, [56]), (55, .return_, 56, []), (56, .aload_n 0, 57, []), (57, .iload_n 2, 58, []), (58, .iload_n 3, 59, []), 
  (59, .invokevirtual 175, 62, [2, 2, 116, 7, 1005, 1007, 23, 47, 1008]), (62, .istore 4, 64, []), (64, .aload_n 0, 65, []), (65, .iload 4, 67, []), (67, .ifCond .lt 13, 70, [80]), (70, .iload 4, 72, []), 
  (72, .iload_n 1, 73, []), (73, .if_icmp .eq 7, 76, [80]), (76, .iconst 1, 77, []), (77, .goto 4, 80, [81]), (80, .iconst 0, 81, []), (81, .iconst 2, 82, []), 
  (82, .invokevirtual 133, 85, [2, 2, 112, 7, 843, 845, 21, 47, 846]), (85, .ifCond .eq 4, 88, [89]), (88, .return_, 89, []), (89, .iload_n 2, 90, []), (90, .istore 5, 92, []), (92, .iload 5, 94, []), 
  (94, .ifCond .eq 21, 97, [115]), (97, .iload 5, 99, []), (99, .iload_n 1, 100, []), (100, .if_icmp .eq 15, 103, [115]), (103, .aload_n 0, 104, []), (104, .getfield 13, 107, [77, 7, 2]), (107, .iload 5, 109, []), 
  (109, .iaload, 110, []), (110, .istore 5, 112, []), (112, .goto (-20), 115, [92]), (115, .aload_n 0, 116, []), (116, .iload 5, 118, []), (118, .iload_n 1, 119, []), (119, .if_icmp .ne 7, 122, [126]), 
  (122, .iconst 1, 123, []), (123, .goto 4, 126, [127]), (126, .iconst 0, 127, []), (127, .iconst 3, 128, []), (128, .invokevirtual 133, 131, [2, 2, 112, 7, 843, 845, 21, 47, 846]), (131, .ifCond .eq 4, 134, [135]), 
  (134, .return_, 135, []), (135, .aload_n 0, 136, []), (136, .dup, 137, []), (137, .getfield 137, 140, [82, 7, 7]), (140, .iconst 1, 141, []), (141, .iadd, 142, []), (142, .putfield 137, 145, [82, 7, 7]), 
  (145, .aload_n 0, 146, []), (146, .getfield 22, 149, [80, 7, 5]), (149, .aload_n 0, 150, []), (150, .getfield 13, 153, [77, 7, 2]), (153, .iload_n 1, 154, []), (154, .iaload, 155, []), (155, .aload_n 0, 156, []), 
  (156, .getfield 137, 159, [82, 7, 7]), (159, .iastore, 160, []), (160, .aload_n 0, 161, []), (161, .getfield 22, 164, [80, 7, 5]), (164, .iload_n 2, 165, []), (165, .aload_n 0, 166, []), 
  (166, .getfield 137, 169, [82, 7, 7]), (169, .iastore, 170, []), (170, .aload_n 0, 171, []), (171, .getfield 22, 174, [80, 7, 5]), (174, .iload_n 1, 175, []), (175, .aload_n 0, 176, []), 
  (176, .getfield 137, 179, [82, 7, 7]), (179, .iastore, 180, []), (180, .aload_n 0, 181, []), (181, .getfield 13, 184, [77, 7, 2]), (184, .iload_n 1, 185, []), (185, .iload_n 2, 186, []), (186, .iastore, 187, []), 
  (187, .aload_n 0, 188, []), (188, .getfield 16, 191, [78, 7, 3]), (191, .iload_n 1, 192, []), (192, .iload_n 3, 193, []), (193, .iastore, 194, []), (194, .return_, 195, [])])
/-- TapeVaultModel.remove(I)V -/
def mi_120 : MI := (⟨"TapeVaultModel", "remove", "(I)V"⟩, prog_10_method_12_code, 2, (none), [], [
  (0, .aload_n 0, 1, []), (1, .iload_n 1, 2, []), (2, .iconst 1, 3, []), (3, .if_icmp .lt 19, 6, [22]), (6, .iload_n 1, 7, []), (7, .sipush 256, 10, []), (10, .if_icmp .ge 12, 13, [22]), (13, .aload_n 0, 14, []), 
  (14, .getfield 9, 17, [76, 7, 1]), (17, .iload_n 1, 18, []), (18, .iaload, 19, []), (19, .ifCond .ne 7, 22, [26]), (22, .iconst 1, 23, []), (23, .goto 4, 26, [27]), (26, .iconst 0, 27, []), (27, .iconst 1, 28, []), 
  (28, .invokevirtual 133, 31, [2, 2, 112, 7, 843, 845, 21, 47, 846]), (31, .ifCond .eq 4, 34, [35]), (34, .return_, 35, []), (35, .aload_n 0, 36, []), (36, .aload_n 0, 37, []), (37, .getfield 9, 40, [76, 7, 1]), 
  (40, .iload_n 1, 41, []), (41, .iaload, 42, []), (42, .iconst 2, 43, []), (43, .if_icmp .ne 15, 46, [58]), (46, .aload_n 0, 47, []), (47, .iload_n 1, 48, []), 
  (48, .invokevirtual 184, 51, [2, 1, 121, 7, 1026, 1028, 24, 47, 1029]), (51, .ifCond .le 7, 54, [58]), (54, .iconst 1, 55, []), (55, .goto 4, 58, [59]), (58, .iconst 0, 59, []), (59, .iconst 2, 60, []), 
  (60, .invokevirtual 133, 63, [2, 2, 112, 7, 843, 845, 21, 47, 846]), (63, .ifCond .eq 4, 66, [67]), (66, .return_, 67, []), (67, .aload_n 0, 68, []), (68, .getfield 9, 71, [76, 7, 1]), (71, .iload_n 1, 72, []), 
  (72, .iconst 0, 73, []), (73, .iastore, 74, []), (74, .aload_n 0, 75, []), (75, .getfield 22, 78, [80, 7, 5]), (78, .aload_n 0, 79, []), (79, .getfield 13, 82, [77, 7, 2]), (82, .iload_n 1, 83, []), (83, .iaload, 84, []), 
  (84, .aload_n 0, 85, []), (85, .dup, 86, []), (86, .getfield 137, 89, [82, 7, 7]), (89, .iconst 1, 90, []), (90, .iadd, 91, []), (91, .dup_x1, 92, []), (92, .putfield 137, 95, [82, 7, 7]), (95, .iastore, 96, []), 
  (96, .return_, 97, [])])
/-- TapeVaultModel.entries(I)I -/
def mi_121 : MI := (⟨"TapeVaultModel", "entries", "(I)I"⟩, prog_10_method_11_code, 4, (some FieldType.int), [], [
  (0, .iconst 0, 1, []), (1, .istore_n 2, 2, []), (2, .iconst 1, 3, []), (3, .istore_n 3, 4, []), (4, .iload_n 3, 5, []), (5, .sipush 256, 8, []), (8, .if_icmp .ge 31, 11, [39]), (11, .aload_n 0, 12, []), 
  (12, .getfield 9, 15, [76, 7, 1]), (15, .iload_n 3, 16, []), (16, .iaload, 17, []), (17, .ifCond .eq 16, 20, [33]), (20, .aload_n 0, 21, []), (21, .getfield 13, 24, [77, 7, 2]), (24, .iload_n 3, 25, []), 
  (25, .iaload, 26, []), (26, .iload_n 1, 27, []), (27, .if_icmp .ne 6, 30, [33]), (30, .iinc 2 1, 33, []), (33, .iinc 3 1, 36, []), (36, .goto (-32), 39, [4]), (39, .iload_n 2, 40, []), (40, .ireturn, 41, [])])
/-- TapeVaultModel.dump(I)I -/
def mi_122 : MI := (⟨"TapeVaultModel", "dump", "(I)I"⟩, prog_10_method_16_code, 6, (some FieldType.int), [], [
  (0, .aload_n 0, 1, []), (1, .iload_n 1, 2, []), (2, .ifCond .lt 9, 5, [11]), (5, .iload_n 1, 6, []), (6, .bipush 9, 8, []), (8, .if_icmp .le 7, 11, [15]), (11, .iconst 1, 12, []), (12, .goto 4, 15, [16]), 
  (15, .iconst 0, 16, []), (16, .iconst 1, 17, []), (17, .invokevirtual 133, 20, [2, 2, 112, 7, 843, 845, 21, 47, 846]), (20, .ifCond .eq 5, 23, [25]), (23, .iconst 0, 24, []), (24, .ireturn, 25, []), 
  (25, .iconst (-1), 26, []), (26, .istore_n 2, 27, []), (27, .iconst 0, 28, []), (28, .istore_n 3, 29, []), (29, .iconst 2, 30, []), (30, .istore 4, 32, []), (32, .iconst 0, 33, []), (33, .istore 5, 35, []), 
  (35, .iload 5, 37, []), (37, .aload_n 0, 38, []), (38, .getfield 146, 41, [91, 7, 16]), (41, .if_icmp .ge 23, 44, [64]), (44, .aload_n 0, 45, []), (45, .getfield 30, 48, [85, 7, 10]), (48, .iload 5, 50, []), 
  (50, .iaload, 51, []), (51, .iload_n 1, 52, []), (52, .if_icmp .ge 6, 55, [58]), (55, .iload 5, 57, []), (57, .istore_n 2, 58, []), (58, .iinc 5 1, 61, []), (61, .goto (-26), 64, [35]), (64, .iconst 0, 65, []), 
  (65, .istore 5, 67, []), (67, .iload 5, 69, []), (69, .sipush 256, 72, []), (72, .if_icmp .ge 66, 75, [138]), (75, .aload_n 0, 76, []), (76, .iload 5, 78, []), (78, .iload_n 2, 79, []), 
  (79, .invokevirtual 191, 82, [2, 2, 123, 7, 1034, 1036, 25, 47, 1037]), (82, .ifCond .eq 50, 85, [132]), (85, .iinc 3 1, 88, []), (88, .iload 4, 90, []), (90, .iconst 1, 91, []), (91, .aload_n 0, 92, []), 
  (92, .getfield 9, 95, [76, 7, 1]), (95, .iload 5, 97, []), (97, .iaload, 98, []), (98, .iconst 1, 99, []), (99, .if_icmp .ne 18, 102, [117]), (102, .aload_n 0, 103, []), (103, .getfield 19, 106, [79, 7, 4]), 
  (106, .iload 5, 108, []), (108, .iaload, 109, []), (109, .bipush 64, 111, []), (111, .invokestatic 188, 114, [0, 2, 124, 1038, 1039, 47, 1040]), (114, .goto 14, 117, [128]), (117, .aload_n 0, 118, []), 
  (118, .iload 5, 120, []), (120, .invokevirtual 184, 123, [2, 1, 121, 7, 1026, 1028, 24, 47, 1029]), (123, .bipush 21, 125, []), (125, .invokestatic 188, 128, [0, 2, 124, 1038, 1039, 47, 1040]), (128, .iadd, 129, []), 
  (129, .iadd, 130, []), (130, .istore 4, 132, []), (132, .iinc 5 1, 135, []), (135, .goto (-68), 138, [67]), (138, .iload 4, 140, []), (140, .iload_n 3, 141, []), (141, .bipush 31, 143, []), 
  (143, .invokestatic 188, 146, [0, 2, 124, 1038, 1039, 47, 1040]), (146, .iadd, 147, []), (147, .istore 4, 149, []), (149, .aload_n 0, 150, []), (150, .aload_n 0, 151, []), (151, .getfield 146, 154, [91, 7, 16]), 
  (154, .bipush 100, 156, []), (156, .if_icmp .eq 23, 159, [179]), (159, .aload_n 0, 160, []), (160, .getfield 143, 163, [84, 7, 9]), (163, .iload 4, 165, []), (165, .iadd, 166, []), (166, .aload_n 0, 167, []), 
  (167, .getfield 140, 170, [83, 7, 8]), (170, .invokestatic 194, 173, [0, 2, 125, 1041, 1042, 47, 1043]), (173, .sipush 4000, 176, []), (176, .if_icmp .le 7, 179, [183]), (179, .iconst 1, 180, []), 
  (180, .goto 4, 183, [184]), (183, .iconst 0, 184, []), (184, .iconst 2, 185, []), (185, .invokevirtual 133, 188, [2, 2, 112, 7, 843, 845, 21, 47, 846]), (188, .ifCond .eq 5, 191, [193]), (191, .iconst 0, 192, []), 
  (192, .ireturn, 193, []), (193, .aload_n 0, 194, []), (194, .getfield 30, 197, [85, 7, 10]), (197, .aload_n 0, 198, []), (198, .getfield 146, 201, [91, 7, 16]), (201, .iload_n 1, 202, []), (202, .iastore, 203, []), 
  (203, .aload_n 0, 204, []), (204, .getfield 33, 207, [86, 7, 11]), (207, .aload_n 0, 208, []), (208, .getfield 146, 211, [91, 7, 16]), (211, .aload_n 0, 212, []), (212, .getfield 137, 215, [82, 7, 7]), 
  (215, .iastore, 216, []), (216, .aload_n 0, 217, []), (217, .getfield 36, 220, [87, 7, 12]), (220, .aload_n 0, 221, []), (221, .getfield 146, 224, [91, 7, 16]), (224, .iload_n 2, 225, []), (225, .iastore, 226, []), 
  (226, .aload_n 0, 227, []), (227, .getfield 39, 230, [88, 7, 13]), (230, .aload_n 0, 231, []), (231, .getfield 146, 234, [91, 7, 16]), (234, .aload_n 0, 235, []), (235, .getfield 143, 238, [84, 7, 9]), 
  (238, .iastore, 239, []), (239, .aload_n 0, 240, []), (240, .getfield 42, 243, [89, 7, 14]), (243, .aload_n 0, 244, []), (244, .getfield 146, 247, [91, 7, 16]), (247, .aload_n 0, 248, []), 
  (248, .getfield 149, 251, [102, 7, 27]), (251, .iastore, 252, []), (252, .iconst 0, 253, []), (253, .istore 5, 255, []), (255, .iload 5, 257, []), (257, .sipush 256, 260, []), (260, .if_icmp .ge 52, 263, [312]), 
  (263, .aload_n 0, 264, []), (264, .getfield 47, 267, [90, 7, 15]), (267, .aload_n 0, 268, []), (268, .getfield 146, 271, [91, 7, 16]), (271, .aaload, 272, []), (272, .iload 5, 274, []), (274, .aload_n 0, 275, []), 
  (275, .getfield 9, 278, [76, 7, 1]), (278, .iload 5, 280, []), (280, .iaload, 281, []), (281, .ifCond .eq 7, 284, [288]), (284, .iconst 1, 285, []), (285, .goto 4, 288, [289]), (288, .iconst 0, 289, []), 
  (289, .bastore, 290, []), (290, .aload_n 0, 291, []), (291, .iload 5, 293, []), (293, .iload_n 2, 294, []), (294, .invokevirtual 191, 297, [2, 2, 123, 7, 1034, 1036, 25, 47, 1037]), (297, .ifCond .eq 9, 300, [306]), 
  (300, .aload_n 0, 301, []), (301, .iload 5, 303, []), (303, .invokevirtual 197, 306, [2, 1, 126, 7, 1044, 1046, 26, 47, 1047]), (306, .iinc 5 1, 309, []), (309, .goto (-54), 312, [255]), (312, .aload_n 0, 313, []), 
  (313, .dup, 314, []), (314, .getfield 143, 317, [84, 7, 9]), (317, .iload 4, 319, []), (319, .iadd, 320, []), (320, .putfield 143, 323, [84, 7, 9]), (323, .aload_n 0, 324, []), (324, .dup, 325, []), 
  (325, .getfield 146, 328, [91, 7, 16]), (328, .iconst 1, 329, []), (329, .iadd, 330, []), (330, .putfield 146, 333, [91, 7, 16]), (333, .aload_n 0, 334, []), (334, .getfield 39, 337, [88, 7, 13]), 
  (337, .aload_n 0, 338, []), (338, .getfield 146, 341, [91, 7, 16]), (341, .aload_n 0, 342, []), (342, .getfield 143, 345, [84, 7, 9]), (345, .iastore, 346, []), (346, .aload_n 0, 347, []), 
  (347, .getfield 42, 350, [89, 7, 14]), (350, .aload_n 0, 351, []), (351, .getfield 146, 354, [91, 7, 16]), (354, .aload_n 0, 355, []), (355, .getfield 149, 358, [102, 7, 27]), (358, .iastore, 359, []), 
  (359, .aload_n 0, 360, []), (360, .getfield 146, 363, [91, 7, 16]), (363, .iconst 1, 364, []), (364, .isub, 365, []), (365, .ireturn, 366, [])])
/-- TapeVaultModel.changed(II)Z -/
def mi_123 : MI := (⟨"TapeVaultModel", "changed", "(II)Z"⟩, prog_10_method_17_code, 3, (some FieldType.boolean), [], [
  (0, .aload_n 0, 1, []), (1, .getfield 9, 4, [76, 7, 1]), (4, .iload_n 1, 5, []), (5, .iaload, 6, []), (6, .ifCond .eq 26, 9, [32]), (9, .iload_n 2, 10, []), (10, .ifCond .lt 18, 13, [28]), (13, .aload_n 0, 14, []), 
  (14, .getfield 22, 17, [80, 7, 5]), (17, .iload_n 1, 18, []), (18, .iaload, 19, []), (19, .aload_n 0, 20, []), (20, .getfield 33, 23, [86, 7, 11]), (23, .iload_n 2, 24, []), (24, .iaload, 25, []), 
  (25, .if_icmp .le 7, 28, [32]), (28, .iconst 1, 29, []), (29, .goto 4, 32, [33]), (32, .iconst 0, 33, []), (33, .ireturn, 34, [])])
/-- TapeVaultModel.parts(II)I -/
def mi_124 : MI := (⟨"TapeVaultModel", "parts", "(II)I"⟩, prog_10_method_13_code, 2, (some FieldType.int), [], [
  (0, .iload_n 0, 1, []), (1, .iload_n 1, 2, []), (2, .iadd, 3, []), (3, .iconst 1, 4, []), (4, .isub, 5, []), (5, .iload_n 1, 6, []), (6, .idiv, 7, []), (7, .ireturn, 8, [])])
/-- TapeVaultModel.all(II)I -/
def mi_125 : MI := (⟨"TapeVaultModel", "all", "(II)I"⟩, prog_10_method_15_code, 2, (some FieldType.int), [], [
  (0, .iload_n 0, 1, []), (1, .iload_n 0, 2, []), (2, .iload_n 1, 3, []), (3, .iconst 1, 4, []), (4, .isub, 5, []), (5, .invokestatic 188, 8, [0, 2, 124, 1038, 1039, 47, 1040]), (8, .iadd, 9, []), (9, .ireturn, 10, [])])
/-- TapeVaultModel.record(I)V -/
def mi_126 : MI := (⟨"TapeVaultModel", "record", "(I)V"⟩, prog_10_method_18_code, 7, (none), [], [
  (0, .aload_n 0, 1, []), (1, .dup, 2, []), (2, .getfield 149, 5, [102, 7, 27]), (5, .dup_x1, 6, []), (6, .iconst 1, 7, []), (7, .iadd, 8, []), (8, .putfield 149, 11, [102, 7, 27]), (11, .istore_n 2, 12, []), 
  (12, .aload_n 0, 13, []), (13, .getfield 50, 16, [92, 7, 17]), (16, .iload_n 2, 17, []), (17, .iload_n 1, 18, []), (18, .iastore, 19, []), (19, .aload_n 0, 20, []), (20, .getfield 53, 23, [93, 7, 18]), 
  (23, .iload_n 2, 24, []), (24, .aload_n 0, 25, []), (25, .getfield 9, 28, [76, 7, 1]), (28, .iload_n 1, 29, []), (29, .iaload, 30, []), (30, .iastore, 31, []), (31, .aload_n 0, 32, []), 
  (32, .getfield 56, 35, [94, 7, 19]), (35, .iload_n 2, 36, []), (36, .aload_n 0, 37, []), (37, .getfield 16, 40, [78, 7, 3]), (40, .iload_n 1, 41, []), (41, .iaload, 42, []), (42, .iastore, 43, []), 
  (43, .aload_n 0, 44, []), (44, .getfield 59, 47, [95, 7, 20]), (47, .iload_n 2, 48, []), (48, .aload_n 0, 49, []), (49, .getfield 13, 52, [77, 7, 2]), (52, .iload_n 1, 53, []), (53, .iaload, 54, []), 
  (54, .iastore, 55, []), (55, .aload_n 0, 56, []), (56, .getfield 65, 59, [97, 7, 22]), (59, .iload_n 2, 60, []), (60, .aload_n 0, 61, []), (61, .getfield 22, 64, [80, 7, 5]), (64, .iload_n 1, 65, []), 
  (65, .iaload, 66, []), (66, .iastore, 67, []), (67, .aload_n 0, 68, []), (68, .getfield 9, 71, [76, 7, 1]), (71, .iload_n 1, 72, []), (72, .iaload, 73, []), (73, .iconst 1, 74, []), (74, .if_icmp .ne 68, 77, [142]), 
  (77, .aload_n 0, 78, []), (78, .getfield 62, 81, [96, 7, 21]), (81, .iload_n 2, 82, []), (82, .aload_n 0, 83, []), (83, .getfield 19, 86, [79, 7, 4]), (86, .iload_n 1, 87, []), (87, .iaload, 88, []), 
  (88, .iastore, 89, []), (89, .aload_n 0, 90, []), (90, .getfield 68, 93, [98, 7, 23]), (93, .iload_n 2, 94, []), (94, .aload_n 0, 95, []), (95, .getfield 152, 98, [103, 7, 28]), (98, .iastore, 99, []), 
  (99, .iconst 0, 100, []), (100, .istore_n 3, 101, []), (101, .iload_n 3, 102, []), (102, .aload_n 0, 103, []), (103, .getfield 19, 106, [79, 7, 4]), (106, .iload_n 1, 107, []), (107, .iaload, 108, []), 
  (108, .if_icmp .ge 33, 111, [141]), (111, .aload_n 0, 112, []), (112, .getfield 72, 115, [99, 7, 24]), (115, .aload_n 0, 116, []), (116, .dup, 117, []), (117, .getfield 152, 120, [103, 7, 28]), (120, .dup_x1, 121, []), 
  (121, .iconst 1, 122, []), (122, .iadd, 123, []), (123, .putfield 152, 126, [103, 7, 28]), (126, .aload_n 0, 127, []), (127, .getfield 27, 130, [81, 7, 6]), (130, .iload_n 1, 131, []), (131, .aaload, 132, []), 
  (132, .iload_n 3, 133, []), (133, .baload, 134, []), (134, .bastore, 135, []), (135, .iinc 3 1, 138, []), (138, .goto (-37), 141, [101]), (141, .return_, 142, []), (142, .aload_n 0, 143, []), 
  (143, .getfield 62, 146, [96, 7, 21]), (146, .iload_n 2, 147, []), (147, .aload_n 0, 148, []), (148, .iload_n 1, 149, []), (149, .invokevirtual 184, 152, [2, 1, 121, 7, 1026, 1028, 24, 47, 1029]), 
  (152, .iastore, 153, []), (153, .aload_n 0, 154, []), (154, .getfield 68, 157, [98, 7, 23]), (157, .iload_n 2, 158, []), (158, .aload_n 0, 159, []), (159, .getfield 155, 162, [104, 7, 29]), (162, .iastore, 163, []), 
  (163, .iconst 0, 164, []), (164, .istore_n 3, 165, []), (165, .iconst 0, 166, []), (166, .istore 4, 168, []), (168, .iload 4, 170, []), (170, .aload_n 0, 171, []), (171, .getfield 62, 174, [96, 7, 21]), 
  (174, .iload_n 2, 175, []), (175, .iaload, 176, []), (176, .if_icmp .ge 123, 179, [299]), (179, .iconst (-1), 180, []), (180, .istore 5, 182, []), (182, .iconst 1, 183, []), (183, .istore 6, 185, []), 
  (185, .iload 6, 187, []), (187, .sipush 256, 190, []), (190, .if_icmp .ge 67, 193, [257]), (193, .aload_n 0, 194, []), (194, .getfield 9, 197, [76, 7, 1]), (197, .iload 6, 199, []), (199, .iaload, 200, []), 
  (200, .ifCond .eq 51, 203, [251]), (203, .aload_n 0, 204, []), (204, .getfield 13, 207, [77, 7, 2]), (207, .iload 6, 209, []), (209, .iaload, 210, []), (210, .iload_n 1, 211, []), (211, .if_icmp .ne 40, 214, [251]), 
  (214, .aload_n 0, 215, []), (215, .getfield 16, 218, [78, 7, 3]), (218, .iload 6, 220, []), (220, .iaload, 221, []), (221, .iload_n 3, 222, []), (222, .if_icmp .le 29, 225, [251]), (225, .iload 5, 227, []), 
  (227, .ifCond .lt 20, 230, [247]), (230, .aload_n 0, 231, []), (231, .getfield 16, 234, [78, 7, 3]), (234, .iload 6, 236, []), (236, .iaload, 237, []), (237, .aload_n 0, 238, []), (238, .getfield 16, 241, [78, 7, 3]), 
  (241, .iload 5, 243, []), (243, .iaload, 244, []), (244, .if_icmp .ge 7, 247, [251]), (247, .iload 6, 249, []), (249, .istore 5, 251, []), (251, .iinc 6 1, 254, []), (254, .goto (-69), 257, [185]), 
  (257, .aload_n 0, 258, []), (258, .getfield 16, 261, [78, 7, 3]), (261, .iload 5, 263, []), (263, .iaload, 264, []), (264, .istore_n 3, 265, []), (265, .aload_n 0, 266, []), (266, .getfield 77, 269, [100, 7, 25]), 
  (269, .aload_n 0, 270, []), (270, .getfield 155, 273, [104, 7, 29]), (273, .iload_n 3, 274, []), (274, .iastore, 275, []), (275, .aload_n 0, 276, []), (276, .getfield 80, 279, [101, 7, 26]), (279, .aload_n 0, 280, []), 
  (280, .dup, 281, []), (281, .getfield 155, 284, [104, 7, 29]), (284, .dup_x1, 285, []), (285, .iconst 1, 286, []), (286, .iadd, 287, []), (287, .putfield 155, 290, [104, 7, 29]), (290, .iload 5, 292, []), 
  (292, .iastore, 293, []), (293, .iinc 4 1, 296, []), (296, .goto (-128), 299, [168]), (299, .return_, 300, [])])
/-- TapeVaultModel.spoil(II)V -/
def mi_127 : MI := (⟨"TapeVaultModel", "spoil", "(II)V"⟩, prog_10_method_21_code, 3, (none), [], [
  (0, .aload_n 0, 1, []), (1, .aload_n 0, 2, []), (2, .iload_n 1, 3, []), (3, .iload_n 2, 4, []), (4, .invokevirtual 200, 7, [2, 2, 128, 7, 1052, 1054, 27, 47, 1055]), (7, .ifCond .ne 7, 10, [14]), (10, .iconst 1, 11, []), 
  (11, .goto 4, 14, [15]), (14, .iconst 0, 15, []), (15, .iconst 1, 16, []), (16, .invokevirtual 133, 19, [2, 2, 112, 7, 843, 845, 21, 47, 846]), (19, .ifCond .eq 4, 22, [23]), (22, .return_, 23, []), 
  (23, .iload_n 2, 24, []), (24, .ifCond .ne 13, 27, [37]), (27, .aload_n 0, 28, []), (28, .getfield 87, 31, [106, 7, 31]), (31, .iload_n 1, 32, []), (32, .iconst 1, 33, []), (33, .bastore, 34, []), 
  (34, .goto 15, 37, [49]), (37, .aload_n 0, 38, []), (38, .getfield 83, 41, [105, 7, 30]), (41, .aload_n 0, 42, []), (42, .iload_n 1, 43, []), (43, .iload_n 2, 44, []), 
  (44, .invokevirtual 203, 47, [2, 2, 129, 7, 1056, 1058, 28, 47, 1059]), (47, .iconst 1, 48, []), (48, .bastore, 49, []), (49, .return_, 50, [])])
/-- TapeVaultModel.isWritten(II)Z -/
def mi_128 : MI := (⟨"TapeVaultModel", "isWritten", "(II)Z"⟩, prog_10_method_20_code, 3, (some FieldType.boolean), [], [
  (0, .iload_n 1, 1, []), (1, .ifCond .lt 22, 4, [23]), (4, .iload_n 2, 5, []), (5, .ifCond .lt 18, 8, [23]), (8, .iload_n 2, 9, []), (9, .aload_n 0, 10, []), (10, .getfield 140, 13, [83, 7, 8]), 
  (13, .if_icmp .ge 10, 16, [23]), (16, .iload_n 1, 17, []), (17, .sipush 4000, 20, []), (20, .if_icmp .le 5, 23, [25]), (23, .iconst 0, 24, []), (24, .ireturn, 25, []), (25, .iload_n 2, 26, []), 
  (26, .ifCond .ne 30, 29, [56]), (29, .iload_n 1, 30, []), (30, .i2l, 31, []), (31, .aload_n 0, 32, []), (32, .getfield 140, 35, [83, 7, 8]), (35, .iconst 1, 36, []), (36, .isub, 37, []), (37, .i2l, 38, []), 
  (38, .lmul, 39, []), (39, .aload_n 0, 40, []), (40, .getfield 143, 43, [84, 7, 9]), (43, .i2l, 44, []), (44, .lcmp, 45, []), (45, .ifCond .ge 7, 48, [52]), (48, .iconst 1, 49, []), (49, .goto 36, 52, [85]), 
  (52, .iconst 0, 53, []), (53, .goto 32, 56, [85]), (56, .iload_n 1, 57, []), (57, .i2l, 58, []), (58, .aload_n 0, 59, []), (59, .getfield 140, 62, [83, 7, 8]), (62, .iconst 1, 63, []), (63, .isub, 64, []), 
  (64, .i2l, 65, []), (65, .lmul, 66, []), (66, .iload_n 2, 67, []), (67, .i2l, 68, []), (68, .ladd, 69, []), (69, .lconst 1, 70, []), (70, .lsub, 71, []), (71, .aload_n 0, 72, []), (72, .getfield 143, 75, [84, 7, 9]), 
  (75, .i2l, 76, []), (76, .lcmp, 77, []), (77, .ifCond .ge 7, 80, [84]), (80, .iconst 1, 81, []), (81, .goto 4, 84, [85]), (84, .iconst 0, 85, []), (85, .ireturn, 86, [])])
/-- TapeVaultModel.place(II)I -/
def mi_129 : MI := (⟨"TapeVaultModel", "place", "(II)I"⟩, prog_10_method_19_code, 3, (some FieldType.int), [], [
  (0, .iload_n 1, 1, []), (1, .aload_n 0, 2, []), (2, .getfield 140, 5, [83, 7, 8]), (5, .iconst 1, 6, []), (6, .isub, 7, []), (7, .imul, 8, []), (8, .iload_n 2, 9, []), (9, .iadd, 10, []), (10, .iconst 1, 11, []), 
  (11, .isub, 12, []), (12, .ireturn, 13, [])])
/-- TapeVaultModel.tape(III)J -/
def mi_130 : MI := (⟨"TapeVaultModel", "tape", "(III)J"⟩, prog_10_method_27_code, 7, (some FieldType.long), [], [
  (0, .aload_n 0, 1, []), (1, .iload_n 3, 2, []), (2, .ifCond .lt 9, 5, [11]), (5, .iload_n 3, 6, []), (6, .bipush 7, 8, []), (8, .if_icmp .le 7, 11, [15]), (11, .iconst 1, 12, []), (12, .goto 4, 15, [16]), 
  (15, .iconst 0, 16, []), (16, .iconst 1, 17, []), (17, .invokevirtual 133, 20, [2, 2, 112, 7, 843, 845, 21, 47, 846]), (20, .ifCond .eq 5, 23, [25]), (23, .lconst 0, 24, []), (24, .lreturn, 25, []), 
  (25, .aload_n 0, 26, []), (26, .aload_n 0, 27, []), (27, .iload_n 1, 28, []), (28, .iload_n 2, 29, []), (29, .invokevirtual 200, 32, [2, 2, 128, 7, 1052, 1054, 27, 47, 1055]), (32, .ifCond .ne 7, 35, [39]), 
  (35, .iconst 1, 36, []), (36, .goto 4, 39, [40]), (39, .iconst 0, 40, []), (40, .iconst 2, 41, []), (41, .invokevirtual 133, 44, [2, 2, 112, 7, 843, 845, 21, 47, 846]), (44, .ifCond .eq 5, 47, [49]), 
  (47, .lconst 0, 48, []), (48, .lreturn, 49, []), (49, .aload_n 0, 50, []), (50, .iload_n 2, 51, []), (51, .ifCond .ne 12, 54, [63]), (54, .aload_n 0, 55, []), (55, .getfield 87, 58, [106, 7, 31]), 
  (58, .iload_n 1, 59, []), (59, .baload, 60, []), (60, .goto 14, 63, [74]), (63, .aload_n 0, 64, []), (64, .getfield 83, 67, [105, 7, 30]), (67, .aload_n 0, 68, []), (68, .iload_n 1, 69, []), (69, .iload_n 2, 70, []), 
  (70, .invokevirtual 203, 73, [2, 2, 129, 7, 1056, 1058, 28, 47, 1059]), (73, .baload, 74, []), (74, .iconst 3, 75, []), (75, .invokevirtual 133, 78, [2, 2, 112, 7, 843, 845, 21, 47, 846]), (78, .ifCond .eq 5, 81, [83]), 
  (81, .lconst 0, 82, []), (82, .lreturn, 83, []), (83, .iload_n 2, 84, []), (84, .ifCond .ne 48, 87, [132]), (87, .iconst 0, 88, []), (88, .istore 4, 90, []), (90, .iload 4, 92, []), (92, .bipush 64, 94, []), 
  (94, .if_icmp .ge 17, 97, [111]), (97, .aload_n 0, 98, []), (98, .getfield 122, 101, [121, 7, 46]), (101, .iload 4, 103, []), (103, .iconst 0, 104, []), (104, .iastore, 105, []), (105, .iinc 4 1, 108, []), 
  (108, .goto (-18), 111, [90]), (111, .aload_n 0, 112, []), (112, .iconst 0, 113, []), (113, .putfield 206, 116, [122, 7, 47]), (116, .aload_n 0, 117, []), (117, .bipush 76, 119, []), (119, .iconst 1, 120, []), 
  (120, .invokevirtual 212, 123, [2, 2, 131, 7, 1064, 1066, 29, 47, 1067]), (123, .aload_n 0, 124, []), (124, .iload_n 1, 125, []), (125, .iconst 2, 126, []), 
  (126, .invokevirtual 212, 129, [2, 2, 131, 7, 1064, 1066, 29, 47, 1067]), (129, .goto 13, 132, [142]), (132, .aload_n 0, 133, []), (133, .aload_n 0, 134, []), (134, .iload_n 1, 135, []), (135, .iload_n 2, 136, []), 
  (136, .invokevirtual 203, 139, [2, 2, 129, 7, 1056, 1058, 28, 47, 1059]), (139, .invokevirtual 228, 142, [2, 1, 132, 7, 1068, 1070, 30, 47, 1071]), (142, .lconst 0, 143, []), (143, .lstore 4, 145, []), 
  (145, .iconst 0, 146, []), (146, .istore 6, 148, []), (148, .iload 6, 150, []), (150, .bipush 8, 152, []), (152, .if_icmp .ge 30, 155, [182]), (155, .lload 4, 157, []), (157, .bipush 8, 159, []), (159, .lshl, 160, []), 
  (160, .aload_n 0, 161, []), (161, .getfield 122, 164, [121, 7, 46]), (164, .bipush 8, 166, []), (166, .iload_n 3, 167, []), (167, .imul, 168, []), (168, .iload 6, 170, []), (170, .iadd, 171, []), (171, .iaload, 172, []), 
  (172, .i2l, 173, []), (173, .lor, 174, []), (174, .lstore 4, 176, []), (176, .iinc 6 1, 179, []), (179, .goto (-31), 182, [148]), (182, .lload 4, 184, []), (184, .lreturn, 185, [])])
/-- TapeVaultModel.put(II)V -/
def mi_131 : MI := (⟨"TapeVaultModel", "put", "(II)V"⟩, prog_10_method_22_code, 4, (none), [], [
  (0, .iload_n 2, 1, []), (1, .iconst 1, 2, []), (2, .isub, 3, []), (3, .istore_n 3, 4, []), (4, .iload_n 3, 5, []), (5, .ifCond .lt 35, 8, [40]), (8, .aload_n 0, 9, []), (9, .getfield 122, 12, [121, 7, 46]), 
  (12, .aload_n 0, 13, []), (13, .dup, 14, []), (14, .getfield 206, 17, [122, 7, 47]), (17, .dup_x1, 18, []), (18, .iconst 1, 19, []), (19, .iadd, 20, []), (20, .putfield 206, 23, [122, 7, 47]), (23, .iload_n 1, 24, []), 
  (24, .bipush 8, 26, []), (26, .iload_n 3, 27, []), (27, .imul, 28, []), (28, .ishr, 29, []), (29, .sipush 255, 32, []), (32, .iand, 33, []), (33, .iastore, 34, []), (34, .iinc 3 (-1), 37, []), (37, .goto (-33), 40, [4]), 
  (40, .return_, 41, [])])
/-- TapeVaultModel.make(I)V -/
def mi_132 : MI := (⟨"TapeVaultModel", "make", "(I)V"⟩, prog_10_method_25_code, 7, (none), [], [
  (0, .iconst 0, 1, []), (1, .istore_n 2, 2, []), (2, .iload_n 2, 3, []), (3, .bipush 64, 5, []), (5, .if_icmp .ge 16, 8, [21]), (8, .aload_n 0, 9, []), (9, .getfield 122, 12, [121, 7, 46]), (12, .iload_n 2, 13, []), 
  (13, .iconst 0, 14, []), (14, .iastore, 15, []), (15, .iinc 2 1, 18, []), (18, .goto (-16), 21, [2]), (21, .aload_n 0, 22, []), (22, .iconst 0, 23, []), (23, .putfield 206, 26, [122, 7, 47]), (26, .iconst 0, 27, []), 
  (27, .istore_n 2, 28, []), (28, .aload_n 0, 29, []), (29, .getfield 39, 32, [88, 7, 13]), (32, .iload_n 2, 33, []), (33, .iconst 1, 34, []), (34, .iadd, 35, []), (35, .iaload, 36, []), (36, .iload_n 1, 37, []), 
  (37, .if_icmp .gt 9, 40, [46]), (40, .iinc 2 1, 43, []), (43, .goto (-15), 46, [28]), (46, .iload_n 1, 47, []), (47, .aload_n 0, 48, []), (48, .getfield 39, 51, [88, 7, 13]), (51, .iload_n 2, 52, []), 
  (52, .iaload, 53, []), (53, .isub, 54, []), (54, .istore_n 3, 55, []), (55, .iload_n 3, 56, []), (56, .ifCond .ne 64, 59, [120]), (59, .aload_n 0, 60, []), (60, .bipush 72, 62, []), (62, .iconst 1, 63, []), 
  (63, .invokevirtual 212, 66, [2, 2, 131, 7, 1064, 1066, 29, 47, 1067]), (66, .aload_n 0, 67, []), (67, .aload_n 0, 68, []), (68, .getfield 30, 71, [85, 7, 10]), (71, .iload_n 2, 72, []), (72, .iaload, 73, []), 
  (73, .iconst 1, 74, []), (74, .invokevirtual 212, 77, [2, 2, 131, 7, 1064, 1066, 29, 47, 1067]), (77, .aload_n 0, 78, []), (78, .iload_n 2, 79, []), (79, .iconst 2, 80, []), 
  (80, .invokevirtual 212, 83, [2, 2, 131, 7, 1064, 1066, 29, 47, 1067]), (83, .aload_n 0, 84, []), (84, .aload_n 0, 85, []), (85, .getfield 33, 88, [86, 7, 11]), (88, .iload_n 2, 89, []), (89, .iaload, 90, []), 
  (90, .iconst 4, 91, []), (91, .invokevirtual 212, 94, [2, 2, 131, 7, 1064, 1066, 29, 47, 1067]), (94, .aload_n 0, 95, []), (95, .aload_n 0, 96, []), (96, .getfield 36, 99, [87, 7, 12]), (99, .iload_n 2, 100, []), 
  (100, .iaload, 101, []), (101, .iconst 1, 102, []), (102, .iadd, 103, []), (103, .iconst 2, 104, []), (104, .invokevirtual 212, 107, [2, 2, 131, 7, 1064, 1066, 29, 47, 1067]), (107, .aload_n 0, 108, []), 
  (108, .aload_n 0, 109, []), (109, .iload_n 2, 110, []), (110, .invokevirtual 209, 113, [2, 1, 133, 7, 1072, 1074, 31, 47, 1075]), (113, .iconst 2, 114, []), 
  (114, .invokevirtual 212, 117, [2, 2, 131, 7, 1064, 1066, 29, 47, 1067]), (117, .goto 192, 120, [309]), (120, .iload_n 3, 121, []), (121, .iconst 1, 122, []), (122, .if_icmp .ne 67, 125, [189]), 
  (125, .aload_n 0, 126, []), (126, .bipush 77, 128, []), (128, .iconst 1, 129, []), (129, .invokevirtual 212, 132, [2, 2, 131, 7, 1064, 1066, 29, 47, 1067]), (132, .iconst 0, 133, []), (133, .istore 4, 135, []), 
  (135, .iload 4, 137, []), (137, .sipush 256, 140, []), (140, .if_icmp .ge 46, 143, [186]), (143, .aload_n 0, 144, []), (144, .getfield 47, 147, [90, 7, 15]), (147, .iload_n 2, 148, []), (148, .aaload, 149, []), 
  (149, .iload 4, 151, []), (151, .baload, 152, []), (152, .ifCond .eq 28, 155, [180]), (155, .aload_n 0, 156, []), (156, .getfield 122, 159, [121, 7, 46]), (159, .iconst 1, 160, []), (160, .iload 4, 162, []), 
  (162, .bipush 8, 164, []), (164, .idiv, 165, []), (165, .iadd, 166, []), (166, .dup2, 167, []), (167, .iaload, 168, []), (168, .iconst 1, 169, []), (169, .bipush 7, 171, []), (171, .iload 4, 173, []), 
  (173, .bipush 8, 175, []), (175, .irem, 176, []), (176, .isub, 177, []), (177, .ishl, 178, []), (178, .ior, 179, []), (179, .iastore, 180, []), (180, .iinc 4 1, 183, []), (183, .goto (-48), 186, [135]), 
  (186, .goto 123, 189, [309]), (189, .iload_n 3, 190, []), (190, .iconst 2, 191, []), (191, .aload_n 0, 192, []), (192, .iload_n 2, 193, []), (193, .invokevirtual 216, 196, [2, 1, 134, 7, 1076, 1078, 32, 47, 1079]), 
  (196, .iadd, 197, []), (197, .if_icmp .ge 98, 200, [295]), (200, .aload_n 0, 201, []), (201, .getfield 42, 204, [89, 7, 14]), (204, .iload_n 2, 205, []), (205, .iaload, 206, []), (206, .bipush 31, 208, []), 
  (208, .iload_n 3, 209, []), (209, .iconst 2, 210, []), (210, .isub, 211, []), (211, .imul, 212, []), (212, .iadd, 213, []), (213, .istore 4, 215, []), (215, .iload 4, 217, []), (217, .bipush 31, 219, []), 
  (219, .iadd, 220, []), (220, .aload_n 0, 221, []), (221, .getfield 42, 224, [89, 7, 14]), (224, .iload_n 2, 225, []), (225, .iconst 1, 226, []), (226, .iadd, 227, []), (227, .iaload, 228, []), 
  (228, .invokestatic 219, 231, [12, 1080, 596, 46, 597]), (231, .istore 5, 233, []), (233, .aload_n 0, 234, []), (234, .bipush 73, 236, []), (236, .iconst 1, 237, []), 
  (237, .invokevirtual 212, 240, [2, 2, 131, 7, 1064, 1066, 29, 47, 1067]), (240, .aload_n 0, 241, []), (241, .iload 5, 243, []), (243, .iload 4, 245, []), (245, .isub, 246, []), (246, .iconst 1, 247, []), 
  (247, .invokevirtual 212, 250, [2, 2, 131, 7, 1064, 1066, 29, 47, 1067]), (250, .iload 4, 252, []), (252, .istore 6, 254, []), (254, .iload 6, 256, []), (256, .iload 5, 258, []), (258, .if_icmp .ge 34, 261, [292]), 
  (261, .aload_n 0, 262, []), (262, .aload_n 0, 263, []), (263, .getfield 50, 266, [92, 7, 17]), (266, .iload 6, 268, []), (268, .iaload, 269, []), (269, .iconst 1, 270, []), 
  (270, .invokevirtual 212, 273, [2, 2, 131, 7, 1064, 1066, 29, 47, 1067]), (273, .aload_n 0, 274, []), (274, .iconst 1, 275, []), (275, .aload_n 0, 276, []), (276, .iload 6, 278, []), 
  (278, .invokevirtual 222, 281, [2, 1, 135, 7, 1081, 1083, 33, 47, 1084]), (281, .iadd, 282, []), (282, .iconst 1, 283, []), (283, .invokevirtual 212, 286, [2, 2, 131, 7, 1064, 1066, 29, 47, 1067]), 
  (286, .iinc 6 1, 289, []), (289, .goto (-35), 292, [254]), (292, .goto 17, 295, [309]), (295, .aload_n 0, 296, []), (296, .iload_n 2, 297, []), (297, .iload_n 3, 298, []), (298, .iconst 2, 299, []), (299, .isub, 300, []), 
  (300, .aload_n 0, 301, []), (301, .iload_n 2, 302, []), (302, .invokevirtual 216, 305, [2, 1, 134, 7, 1076, 1078, 32, 47, 1079]), (305, .isub, 306, []), 
  (306, .invokevirtual 225, 309, [2, 2, 136, 7, 1085, 1087, 34, 47, 1088]), (309, .return_, 310, [])])
/-- TapeVaultModel.many(I)I -/
def mi_133 : MI := (⟨"TapeVaultModel", "many", "(I)I"⟩, prog_10_method_23_code, 2, (some FieldType.int), [], [
  (0, .aload_n 0, 1, []), (1, .getfield 42, 4, [89, 7, 14]), (4, .iload_n 1, 5, []), (5, .iconst 1, 6, []), (6, .iadd, 7, []), (7, .iaload, 8, []), (8, .aload_n 0, 9, []), (9, .getfield 42, 12, [89, 7, 14]), 
  (12, .iload_n 1, 13, []), (13, .iaload, 14, []), (14, .isub, 15, []), (15, .ireturn, 16, [])])
/-- TapeVaultModel.indexes(I)I -/
def mi_134 : MI := (⟨"TapeVaultModel", "indexes", "(I)I"⟩, prog_10_method_24_code, 2, (some FieldType.int), [], [
  (0, .aload_n 0, 1, []), (1, .iload_n 1, 2, []), (2, .invokevirtual 209, 5, [2, 1, 133, 7, 1072, 1074, 31, 47, 1075]), (5, .bipush 31, 7, []), (7, .invokestatic 188, 10, [0, 2, 124, 1038, 1039, 47, 1040]), 
  (10, .ireturn, 11, [])])
/-- TapeVaultModel.contents(I)I -/
def mi_135 : MI := (⟨"TapeVaultModel", "contents", "(I)I"⟩, prog_10_method_14_code, 2, (some FieldType.int), [], [
  (0, .aload_n 0, 1, []), (1, .getfield 62, 4, [96, 7, 21]), (4, .iload_n 1, 5, []), (5, .iaload, 6, []), (6, .aload_n 0, 7, []), (7, .getfield 53, 10, [93, 7, 18]), (10, .iload_n 1, 11, []), (11, .iaload, 12, []), 
  (12, .iconst 1, 13, []), (13, .if_icmp .ne 8, 16, [21]), (16, .bipush 64, 18, []), (18, .goto 5, 21, [23]), (21, .bipush 21, 23, []), (23, .invokestatic 188, 26, [0, 2, 124, 1038, 1039, 47, 1040]), (26, .ireturn, 27, [])])
/-- TapeVaultModel.node(II)V -/
def mi_136 : MI := (⟨"TapeVaultModel", "node", "(II)V"⟩, prog_10_method_26_code, 6, (none), [], [
  (0, .aload_n 0, 1, []), (1, .getfield 42, 4, [89, 7, 14]), (4, .iload_n 1, 5, []), (5, .iaload, 6, []), (6, .istore_n 3, 7, []), (7, .iload_n 2, 8, []), (8, .istore 4, 10, []), (10, .iload 4, 12, []), 
  (12, .aload_n 0, 13, []), (13, .iload_n 3, 14, []), (14, .invokevirtual 222, 17, [2, 1, 135, 7, 1081, 1083, 33, 47, 1084]), (17, .if_icmp .le 21, 20, [38]), (20, .iload 4, 22, []), (22, .iconst 1, 23, []), 
  (23, .aload_n 0, 24, []), (24, .iload_n 3, 25, []), (25, .iinc 3 1, 28, []), (28, .invokevirtual 222, 31, [2, 1, 135, 7, 1081, 1083, 33, 47, 1084]), (31, .iadd, 32, []), (32, .isub, 33, []), (33, .istore 4, 35, []), 
  (35, .goto (-25), 38, [10]), (38, .iload 4, 40, []), (40, .ifCond .ne 79, 43, [119]), (43, .aload_n 0, 44, []), (44, .bipush 78, 46, []), (46, .iconst 1, 47, []), 
  (47, .invokevirtual 212, 50, [2, 2, 131, 7, 1064, 1066, 29, 47, 1067]), (50, .aload_n 0, 51, []), (51, .aload_n 0, 52, []), (52, .getfield 50, 55, [92, 7, 17]), (55, .iload_n 3, 56, []), (56, .iaload, 57, []), 
  (57, .iconst 1, 58, []), (58, .invokevirtual 212, 61, [2, 2, 131, 7, 1064, 1066, 29, 47, 1067]), (61, .aload_n 0, 62, []), (62, .aload_n 0, 63, []), (63, .getfield 53, 66, [93, 7, 18]), (66, .iload_n 3, 67, []), 
  (67, .iaload, 68, []), (68, .iconst 1, 69, []), (69, .invokevirtual 212, 72, [2, 2, 131, 7, 1064, 1066, 29, 47, 1067]), (72, .aload_n 0, 73, []), (73, .aload_n 0, 74, []), (74, .getfield 56, 77, [94, 7, 19]), 
  (77, .iload_n 3, 78, []), (78, .iaload, 79, []), (79, .iconst 2, 80, []), (80, .invokevirtual 212, 83, [2, 2, 131, 7, 1064, 1066, 29, 47, 1067]), (83, .aload_n 0, 84, []), (84, .aload_n 0, 85, []), 
  (85, .getfield 59, 88, [95, 7, 20]), (88, .iload_n 3, 89, []), (89, .iaload, 90, []), (90, .iconst 1, 91, []), (91, .invokevirtual 212, 94, [2, 2, 131, 7, 1064, 1066, 29, 47, 1067]), (94, .aload_n 0, 95, []), 
  (95, .aload_n 0, 96, []), (96, .getfield 62, 99, [96, 7, 21]), (99, .iload_n 3, 100, []), (100, .iaload, 101, []), (101, .iconst 2, 102, []), (102, .invokevirtual 212, 105, [2, 2, 131, 7, 1064, 1066, 29, 47, 1067]), 
  (105, .aload_n 0, 106, []), (106, .aload_n 0, 107, []), (107, .getfield 65, 110, [97, 7, 22]), (110, .iload_n 3, 111, []), (111, .iaload, 112, []), (112, .iconst 4, 113, []), 
  (113, .invokevirtual 212, 116, [2, 2, 131, 7, 1064, 1066, 29, 47, 1067]), (116, .goto 149, 119, [265]), (119, .aload_n 0, 120, []), (120, .getfield 53, 123, [93, 7, 18]), (123, .iload_n 3, 124, []), 
  (124, .iaload, 125, []), (125, .iconst 1, 126, []), (126, .if_icmp .ne 65, 129, [191]), (129, .bipush 64, 131, []), (131, .iload 4, 133, []), (133, .iconst 1, 134, []), (134, .isub, 135, []), (135, .imul, 136, []), 
  (136, .istore 5, 138, []), (138, .iload 5, 140, []), (140, .aload_n 0, 141, []), (141, .getfield 62, 144, [96, 7, 21]), (144, .iload_n 3, 145, []), (145, .iaload, 146, []), (146, .if_icmp .ge 42, 149, [188]), 
  (149, .iload 5, 151, []), (151, .bipush 64, 153, []), (153, .iload 4, 155, []), (155, .imul, 156, []), (156, .if_icmp .ge 32, 159, [188]), (159, .aload_n 0, 160, []), (160, .aload_n 0, 161, []), 
  (161, .getfield 72, 164, [99, 7, 24]), (164, .aload_n 0, 165, []), (165, .getfield 68, 168, [98, 7, 23]), (168, .iload_n 3, 169, []), (169, .iaload, 170, []), (170, .iload 5, 172, []), (172, .iadd, 173, []), 
  (173, .baload, 174, []), (174, .sipush 255, 177, []), (177, .iand, 178, []), (178, .iconst 1, 179, []), (179, .invokevirtual 212, 182, [2, 2, 131, 7, 1064, 1066, 29, 47, 1067]), (182, .iinc 5 1, 185, []), 
  (185, .goto (-47), 188, [138]), (188, .goto 77, 191, [265]), (191, .bipush 21, 193, []), (193, .iload 4, 195, []), (195, .iconst 1, 196, []), (196, .isub, 197, []), (197, .imul, 198, []), (198, .istore 5, 200, []), 
  (200, .iload 5, 202, []), (202, .aload_n 0, 203, []), (203, .getfield 62, 206, [96, 7, 21]), (206, .iload_n 3, 207, []), (207, .iaload, 208, []), (208, .if_icmp .ge 57, 211, [265]), (211, .iload 5, 213, []), 
  (213, .bipush 21, 215, []), (215, .iload 4, 217, []), (217, .imul, 218, []), (218, .if_icmp .ge 47, 221, [265]), (221, .aload_n 0, 222, []), (222, .aload_n 0, 223, []), (223, .getfield 77, 226, [100, 7, 25]), 
  (226, .aload_n 0, 227, []), (227, .getfield 68, 230, [98, 7, 23]), (230, .iload_n 3, 231, []), (231, .iaload, 232, []), (232, .iload 5, 234, []), (234, .iadd, 235, []), (235, .iaload, 236, []), (236, .iconst 2, 237, []), 
  (237, .invokevirtual 212, 240, [2, 2, 131, 7, 1064, 1066, 29, 47, 1067]), (240, .aload_n 0, 241, []), (241, .aload_n 0, 242, []), (242, .getfield 80, 245, [101, 7, 26]), (245, .aload_n 0, 246, []), 
  (246, .getfield 68, 249, [98, 7, 23]), (249, .iload_n 3, 250, []), (250, .iaload, 251, []), (251, .iload 5, 253, []), (253, .iadd, 254, []), (254, .iaload, 255, []), (255, .iconst 1, 256, []), 
  (256, .invokevirtual 212, 259, [2, 2, 131, 7, 1064, 1066, 29, 47, 1067]), (259, .iinc 5 1, 262, []), (262, .goto (-62), 265, [200]), (265, .return_, 266, [])])
/-- TapeVaultModel.restore(I)I -/
def mi_137 : MI := (⟨"TapeVaultModel", "restore", "(I)I"⟩, prog_10_method_29_code, 6, (some FieldType.int), [], [
  (0, .aload_n 0, 1, []), (1, .iload_n 1, 2, []), (2, .ifCond .lt 11, 5, [13]), (5, .iload_n 1, 6, []), (6, .aload_n 0, 7, []), (7, .getfield 146, 10, [91, 7, 16]), (10, .if_icmp .lt 7, 13, [17]), (13, .iconst 1, 14, []), 
  (14, .goto 4, 17, [18]), (17, .iconst 0, 18, []), (18, .iconst 1, 19, []), (19, .invokevirtual 133, 22, [2, 2, 112, 7, 843, 845, 21, 47, 846]), (22, .ifCond .eq 5, 25, [27]), (25, .iconst 0, 26, []), 
  (26, .ireturn, 27, []), (27, .aload_n 0, 28, []), (28, .iconst 0, 29, []), (29, .putfield 158, 32, [117, 7, 42]), (32, .aload_n 0, 33, []), (33, .iconst 0, 34, []), (34, .putfield 162, 37, [118, 7, 43]), 
  (37, .aload_n 0, 38, []), (38, .iconst 0, 39, []), (39, .putfield 165, 42, [119, 7, 44]), (42, .aload_n 0, 43, []), (43, .iconst 0, 44, []), (44, .putfield 168, 47, [120, 7, 45]), (47, .iconst 1, 48, []), 
  (48, .istore_n 2, 49, []), (49, .iload_n 1, 50, []), (50, .istore_n 3, 51, []), (51, .iload_n 3, 52, []), (52, .ifCond .lt 61, 55, [113]), (55, .aload_n 0, 56, []), (56, .dup, 57, []), 
  (57, .getfield 162, 60, [118, 7, 43]), (60, .iconst 1, 61, []), (61, .iadd, 62, []), (62, .putfield 162, 65, [118, 7, 43]), (65, .iconst 0, 66, []), (66, .istore 4, 68, []), (68, .iload 4, 70, []), 
  (70, .aload_n 0, 71, []), (71, .iload_n 3, 72, []), (72, .invokevirtual 231, 75, [2, 1, 138, 7, 1093, 1095, 35, 47, 1096]), (75, .if_icmp .ge 28, 78, [103]), (78, .aload_n 0, 79, []), (79, .getfield 83, 82, [105, 7, 30]), 
  (82, .aload_n 0, 83, []), (83, .getfield 39, 86, [88, 7, 13]), (86, .iload_n 3, 87, []), (87, .iaload, 88, []), (88, .iload 4, 90, []), (90, .iadd, 91, []), (91, .baload, 92, []), (92, .ifCond .eq 5, 95, [97]), 
  (95, .iconst 0, 96, []), (96, .istore_n 2, 97, []), (97, .iinc 4 1, 100, []), (100, .goto (-32), 103, [68]), (103, .aload_n 0, 104, []), (104, .getfield 36, 107, [87, 7, 12]), (107, .iload_n 3, 108, []), 
  (108, .iaload, 109, []), (109, .istore_n 3, 110, []), (110, .goto (-59), 113, [51]), (113, .iload_n 2, 114, []), (114, .ifCond .ne 5, 117, [119]), (117, .iconst 2, 118, []), (118, .ireturn, 119, []), 
  (119, .iconst 0, 120, []), (120, .istore_n 3, 121, []), (121, .iload_n 3, 122, []), (122, .sipush 256, 125, []), (125, .if_icmp .ge 30, 128, [155]), (128, .aload_n 0, 129, []), (129, .getfield 90, 132, [107, 7, 32]), 
  (132, .iload_n 3, 133, []), (133, .iconst 0, 134, []), (134, .iastore, 135, []), (135, .aload_n 0, 136, []), (136, .getfield 108, 139, [113, 7, 38]), (139, .iload_n 3, 140, []), (140, .iconst 0, 141, []), 
  (141, .bastore, 142, []), (142, .aload_n 0, 143, []), (143, .getfield 105, 146, [112, 7, 37]), (146, .iload_n 3, 147, []), (147, .iconst 0, 148, []), (148, .iastore, 149, []), (149, .iinc 3 1, 152, []), 
  (152, .goto (-31), 155, [121]), (155, .aload_n 0, 156, []), (156, .getfield 162, 159, [118, 7, 43]), (159, .iconst 1, 160, []), (160, .isub, 161, []), (161, .istore_n 3, 162, []), (162, .iload_n 3, 163, []), 
  (163, .ifCond .lt 42, 166, [205]), (166, .iload_n 1, 167, []), (167, .istore 4, 169, []), (169, .iconst 0, 170, []), (170, .istore 5, 172, []), (172, .iload 5, 174, []), (174, .iload_n 3, 175, []), 
  (175, .if_icmp .ge 18, 178, [193]), (178, .aload_n 0, 179, []), (179, .getfield 36, 182, [87, 7, 12]), (182, .iload 4, 184, []), (184, .iaload, 185, []), (185, .istore 4, 187, []), (187, .iinc 5 1, 190, []), 
  (190, .goto (-18), 193, [172]), (193, .aload_n 0, 194, []), (194, .iload 4, 196, []), (196, .invokevirtual 234, 199, [2, 1, 139, 7, 1097, 1099, 36, 47, 1100]), (199, .iinc 3 (-1), 202, []), (202, .goto (-40), 205, [162]), 
  (205, .aload_n 0, 206, []), (206, .iconst 1, 207, []), (207, .putfield 158, 210, [117, 7, 42]), (210, .iconst 0, 211, []), (211, .istore_n 3, 212, []), (212, .iload_n 3, 213, []), (213, .sipush 256, 216, []), 
  (216, .if_icmp .ge 28, 219, [244]), (219, .aload_n 0, 220, []), (220, .getfield 108, 223, [113, 7, 38]), (223, .iload_n 3, 224, []), (224, .baload, 225, []), (225, .ifCond .eq 13, 228, [238]), (228, .aload_n 0, 229, []), 
  (229, .dup, 230, []), (230, .getfield 165, 233, [119, 7, 44]), (233, .iconst 1, 234, []), (234, .iadd, 235, []), (235, .putfield 165, 238, [119, 7, 44]), (238, .iinc 3 1, 241, []), (241, .goto (-29), 244, [212]), 
  (244, .aload_n 0, 245, []), (245, .getfield 165, 248, [119, 7, 44]), (248, .ifCond .le 7, 251, [255]), (251, .iconst 1, 252, []), (252, .goto 4, 255, [256]), (255, .iconst 0, 256, []), (256, .ireturn, 257, [])])
/-- TapeVaultModel.head(I)I -/
def mi_138 : MI := (⟨"TapeVaultModel", "head", "(I)I"⟩, prog_10_method_28_code, 2, (some FieldType.int), [], [
  (0, .iconst 2, 1, []), (1, .aload_n 0, 2, []), (2, .iload_n 1, 3, []), (3, .invokevirtual 216, 6, [2, 1, 134, 7, 1076, 1078, 32, 47, 1079]), (6, .iadd, 7, []), (7, .ireturn, 8, [])])
/-- TapeVaultModel.one(I)V -/
def mi_139 : MI := (⟨"TapeVaultModel", "one", "(I)V"⟩, prog_10_method_30_code, 4, (none), [], [
  (0, .iconst 0, 1, []), (1, .istore_n 2, 2, []), (2, .iload_n 2, 3, []), (3, .sipush 256, 6, []), (6, .if_icmp .ge 34, 9, [40]), (9, .aload_n 0, 10, []), (10, .getfield 47, 13, [90, 7, 15]), (13, .iload_n 1, 14, []), 
  (14, .aaload, 15, []), (15, .iload_n 2, 16, []), (16, .baload, 17, []), (17, .ifCond .ne 17, 20, [34]), (20, .aload_n 0, 21, []), (21, .getfield 90, 24, [107, 7, 32]), (24, .iload_n 2, 25, []), (25, .iconst 0, 26, []), 
  (26, .iastore, 27, []), (27, .aload_n 0, 28, []), (28, .getfield 108, 31, [113, 7, 38]), (31, .iload_n 2, 32, []), (32, .iconst 0, 33, []), (33, .bastore, 34, []), (34, .iinc 2 1, 37, []), (37, .goto (-35), 40, [2]), 
  (40, .aload_n 0, 41, []), (41, .getfield 39, 44, [88, 7, 13]), (44, .iload_n 1, 45, []), (45, .iaload, 46, []), (46, .istore_n 2, 47, []), (47, .iload_n 2, 48, []), (48, .aload_n 0, 49, []), 
  (49, .getfield 39, 52, [88, 7, 13]), (52, .iload_n 1, 53, []), (53, .iconst 1, 54, []), (54, .iadd, 55, []), (55, .iaload, 56, []), (56, .if_icmp .ge 28, 59, [84]), (59, .aload_n 0, 60, []), 
  (60, .getfield 83, 63, [105, 7, 30]), (63, .iload_n 2, 64, []), (64, .baload, 65, []), (65, .ifCond .ne 13, 68, [78]), (68, .aload_n 0, 69, []), (69, .dup, 70, []), (70, .getfield 168, 73, [120, 7, 45]), 
  (73, .iconst 1, 74, []), (74, .iadd, 75, []), (75, .putfield 168, 78, [120, 7, 45]), (78, .iinc 2 1, 81, []), (81, .goto (-34), 84, [47]), (84, .aload_n 0, 85, []), (85, .getfield 39, 88, [88, 7, 13]), 
  (88, .iload_n 1, 89, []), (89, .iaload, 90, []), (90, .aload_n 0, 91, []), (91, .iload_n 1, 92, []), (92, .invokevirtual 231, 95, [2, 1, 138, 7, 1093, 1095, 35, 47, 1096]), (95, .iadd, 96, []), (96, .istore_n 2, 97, []), 
  (97, .aload_n 0, 98, []), (98, .getfield 42, 101, [89, 7, 14]), (101, .iload_n 1, 102, []), (102, .iaload, 103, []), (103, .istore_n 3, 104, []), (104, .iload_n 3, 105, []), (105, .aload_n 0, 106, []), 
  (106, .getfield 42, 109, [89, 7, 14]), (109, .iload_n 1, 110, []), (110, .iconst 1, 111, []), (111, .iadd, 112, []), (112, .iaload, 113, []), (113, .if_icmp .ge 25, 116, [138]), (116, .aload_n 0, 117, []), 
  (117, .iload_n 3, 118, []), (118, .iload_n 2, 119, []), (119, .invokevirtual 237, 122, [2, 2, 140, 7, 1101, 1103, 37, 47, 1104]), (122, .iload_n 2, 123, []), (123, .iconst 1, 124, []), (124, .aload_n 0, 125, []), 
  (125, .iload_n 3, 126, []), (126, .invokevirtual 222, 129, [2, 1, 135, 7, 1081, 1083, 33, 47, 1084]), (129, .iadd, 130, []), (130, .iadd, 131, []), (131, .istore_n 2, 132, []), (132, .iinc 3 1, 135, []), 
  (135, .goto (-31), 138, [104]), (138, .return_, 139, [])])
/-- TapeVaultModel.back(II)V -/
def mi_140 : MI := (⟨"TapeVaultModel", "back", "(II)V"⟩, prog_10_method_31_code, 7, (none), [], [
  (0, .aload_n 0, 1, []), (1, .getfield 50, 4, [92, 7, 17]), (4, .iload_n 1, 5, []), (5, .iaload, 6, []), (6, .istore_n 3, 7, []), (7, .aload_n 0, 8, []), (8, .getfield 108, 11, [113, 7, 38]), (11, .iload_n 3, 12, []), 
  (12, .aload_n 0, 13, []), (13, .getfield 83, 16, [105, 7, 30]), (16, .iload_n 2, 17, []), (17, .baload, 18, []), (18, .bastore, 19, []), (19, .aload_n 0, 20, []), (20, .getfield 83, 23, [105, 7, 30]), 
  (23, .iload_n 2, 24, []), (24, .baload, 25, []), (25, .ifCond .eq 4, 28, [29]), (28, .return_, 29, []), (29, .aload_n 0, 30, []), (30, .getfield 90, 33, [107, 7, 32]), (33, .iload_n 3, 34, []), (34, .aload_n 0, 35, []), 
  (35, .getfield 53, 38, [93, 7, 18]), (38, .iload_n 1, 39, []), (39, .iaload, 40, []), (40, .iastore, 41, []), (41, .aload_n 0, 42, []), (42, .getfield 96, 45, [109, 7, 34]), (45, .iload_n 3, 46, []), 
  (46, .aload_n 0, 47, []), (47, .getfield 56, 50, [94, 7, 19]), (50, .iload_n 1, 51, []), (51, .iaload, 52, []), (52, .iastore, 53, []), (53, .aload_n 0, 54, []), (54, .getfield 93, 57, [108, 7, 33]), 
  (57, .iload_n 3, 58, []), (58, .aload_n 0, 59, []), (59, .getfield 59, 62, [95, 7, 20]), (62, .iload_n 1, 63, []), (63, .iaload, 64, []), (64, .iastore, 65, []), (65, .aload_n 0, 66, []), 
  (66, .getfield 99, 69, [110, 7, 35]), (69, .iload_n 3, 70, []), (70, .aload_n 0, 71, []), (71, .getfield 62, 74, [96, 7, 21]), (74, .iload_n 1, 75, []), (75, .iaload, 76, []), (76, .iastore, 77, []), 
  (77, .aload_n 0, 78, []), (78, .getfield 102, 81, [111, 7, 36]), (81, .iload_n 3, 82, []), (82, .aload_n 0, 83, []), (83, .getfield 65, 86, [97, 7, 22]), (86, .iload_n 1, 87, []), (87, .iaload, 88, []), 
  (88, .iastore, 89, []), (89, .aload_n 0, 90, []), (90, .getfield 105, 93, [112, 7, 37]), (93, .iload_n 3, 94, []), (94, .iconst 0, 95, []), (95, .iastore, 96, []), (96, .aload_n 0, 97, []), 
  (97, .getfield 53, 100, [93, 7, 18]), (100, .iload_n 1, 101, []), (101, .iaload, 102, []), (102, .iconst 1, 103, []), (103, .if_icmp .ne 8, 106, [111]), (106, .bipush 64, 108, []), (108, .goto 5, 111, [113]), 
  (111, .bipush 21, 113, []), (113, .istore 4, 115, []), (115, .iconst 0, 116, []), (116, .istore 5, 118, []), (118, .iload 5, 120, []), (120, .aload_n 0, 121, []), (121, .getfield 62, 124, [96, 7, 21]), 
  (124, .iload_n 1, 125, []), (125, .iaload, 126, []), (126, .if_icmp .ge 146, 129, [272]), (129, .aload_n 0, 130, []), (130, .getfield 83, 133, [105, 7, 30]), (133, .iload_n 2, 134, []), (134, .iconst 1, 135, []), 
  (135, .iadd, 136, []), (136, .iload 5, 138, []), (138, .iload 4, 140, []), (140, .idiv, 141, []), (141, .iadd, 142, []), (142, .baload, 143, []), (143, .istore 6, 145, []), (145, .iload 6, 147, []), 
  (147, .ifCond .eq 10, 150, [157]), (150, .aload_n 0, 151, []), (151, .getfield 108, 154, [113, 7, 38]), (154, .iload_n 3, 155, []), (155, .iconst 1, 156, []), (156, .bastore, 157, []), (157, .aload_n 0, 158, []), 
  (158, .getfield 53, 161, [93, 7, 18]), (161, .iload_n 1, 162, []), (162, .iaload, 163, []), (163, .iconst 1, 164, []), (164, .if_icmp .ne 38, 167, [202]), (167, .aload_n 0, 168, []), 
  (168, .getfield 111, 171, [114, 7, 39]), (171, .iload_n 3, 172, []), (172, .aaload, 173, []), (173, .iload 5, 175, []), (175, .iload 6, 177, []), (177, .ifCond .eq 7, 180, [184]), (180, .iconst 0, 181, []), 
  (181, .goto 17, 184, [198]), (184, .aload_n 0, 185, []), (185, .getfield 72, 188, [99, 7, 24]), (188, .aload_n 0, 189, []), (189, .getfield 68, 192, [98, 7, 23]), (192, .iload_n 1, 193, []), (193, .iaload, 194, []), 
  (194, .iload 5, 196, []), (196, .iadd, 197, []), (197, .baload, 198, []), (198, .bastore, 199, []), (199, .goto 67, 202, [266]), (202, .iload 6, 204, []), (204, .ifCond .ne 62, 207, [266]), (207, .aload_n 0, 208, []), 
  (208, .getfield 116, 211, [115, 7, 40]), (211, .iload_n 3, 212, []), (212, .aaload, 213, []), (213, .aload_n 0, 214, []), (214, .getfield 105, 217, [112, 7, 37]), (217, .iload_n 3, 218, []), (218, .iaload, 219, []), 
  (219, .aload_n 0, 220, []), (220, .getfield 77, 223, [100, 7, 25]), (223, .aload_n 0, 224, []), (224, .getfield 68, 227, [98, 7, 23]), (227, .iload_n 1, 228, []), (228, .iaload, 229, []), (229, .iload 5, 231, []), 
  (231, .iadd, 232, []), (232, .iaload, 233, []), (233, .iastore, 234, []), (234, .aload_n 0, 235, []), (235, .getfield 119, 238, [116, 7, 41]), (238, .iload_n 3, 239, []), (239, .aaload, 240, []), 
  (240, .aload_n 0, 241, []), (241, .getfield 105, 244, [112, 7, 37]), (244, .iload_n 3, 245, []), (245, .dup2, 246, []), (246, .iaload, 247, []), (247, .dup_x2, 248, []), (248, .iconst 1, 249, []), (249, .iadd, 250, []), 
  (250, .iastore, 251, []), (251, .aload_n 0, 252, []), (252, .getfield 80, 255, [101, 7, 26]), (255, .aload_n 0, 256, []), (256, .getfield 68, 259, [98, 7, 23]), (259, .iload_n 1, 260, []), (260, .iaload, 261, []), 
  (261, .iload 5, 263, []), (263, .iadd, 264, []), (264, .iaload, 265, []), (265, .iastore, 266, []), (266, .iinc 5 1, 269, []), (269, .goto (-151), 272, [118]), (272, .return_, 273, [])])
/-- TapeVaultModel.node(ZII)I -/
def mi_141 : MI := (⟨"TapeVaultModel", "node", "(ZII)I"⟩, prog_10_method_32_code, 5, (some FieldType.int), [], [
  (0, .aload_n 0, 1, []), (1, .iload_n 3, 2, []), (2, .ifCond .lt 8, 5, [10]), (5, .iload_n 3, 6, []), (6, .iconst 5, 7, []), (7, .if_icmp .le 7, 10, [14]), (10, .iconst 1, 11, []), (11, .goto 4, 14, [15]), 
  (14, .iconst 0, 15, []), (15, .iconst 1, 16, []), (16, .invokevirtual 133, 19, [2, 2, 112, 7, 843, 845, 21, 47, 846]), (19, .ifCond .eq 5, 22, [24]), (22, .iconst 0, 23, []), (23, .ireturn, 24, []), 
  (24, .aload_n 0, 25, []), (25, .iload_n 1, 26, []), (26, .ifCond .eq 14, 29, [40]), (29, .aload_n 0, 30, []), (30, .getfield 158, 33, [117, 7, 42]), (33, .ifCond .ne 7, 36, [40]), (36, .iconst 1, 37, []), 
  (37, .goto 4, 40, [41]), (40, .iconst 0, 41, []), (41, .iconst 2, 42, []), (42, .invokevirtual 133, 45, [2, 2, 112, 7, 843, 845, 21, 47, 846]), (45, .ifCond .eq 5, 48, [50]), (48, .iconst 0, 49, []), 
  (49, .ireturn, 50, []), (50, .aload_n 0, 51, []), (51, .iload_n 2, 52, []), (52, .ifCond .lt 10, 55, [62]), (55, .iload_n 2, 56, []), (56, .sipush 256, 59, []), (59, .if_icmp .lt 7, 62, [66]), (62, .iconst 1, 63, []), 
  (63, .goto 4, 66, [67]), (66, .iconst 0, 67, []), (67, .iconst 3, 68, []), (68, .invokevirtual 133, 71, [2, 2, 112, 7, 843, 845, 21, 47, 846]), (71, .ifCond .eq 5, 74, [76]), (74, .iconst 0, 75, []), 
  (75, .ireturn, 76, []), (76, .iload_n 1, 77, []), (77, .ifCond .eq 12, 80, [89]), (80, .aload_n 0, 81, []), (81, .getfield 90, 84, [107, 7, 32]), (84, .iload_n 2, 85, []), (85, .iaload, 86, []), (86, .goto 9, 89, [95]), 
  (89, .aload_n 0, 90, []), (90, .getfield 9, 93, [76, 7, 1]), (93, .iload_n 2, 94, []), (94, .iaload, 95, []), (95, .istore 4, 97, []), (97, .iload_n 3, 98, []), (98, .ifCond .ne 6, 101, [104]), (101, .iload 4, 103, []), 
  (103, .ireturn, 104, []), (104, .iload_n 3, 105, []), (105, .iconst 5, 106, []), (106, .if_icmp .ne 22, 109, [128]), (109, .iload_n 1, 110, []), (110, .ifCond .eq 16, 113, [126]), (113, .aload_n 0, 114, []), 
  (114, .getfield 108, 117, [113, 7, 38]), (117, .iload_n 2, 118, []), (118, .baload, 119, []), (119, .ifCond .eq 7, 122, [126]), (122, .iconst 1, 123, []), (123, .goto 4, 126, [127]), (126, .iconst 0, 127, []), 
  (127, .ireturn, 128, []), (128, .iload 4, 130, []), (130, .ifCond .ne 5, 133, [135]), (133, .iconst 0, 134, []), (134, .ireturn, 135, []), (135, .iload_n 1, 136, []), (136, .ifCond .eq 52, 139, [188]), 
  (139, .iload_n 3, 140, []), (140, .iconst 1, 141, []), (141, .if_icmp .ne 12, 144, [153]), (144, .aload_n 0, 145, []), (145, .getfield 93, 148, [108, 7, 33]), (148, .iload_n 2, 149, []), (149, .iaload, 150, []), 
  (150, .goto 37, 153, [187]), (153, .iload_n 3, 154, []), (154, .iconst 2, 155, []), (155, .if_icmp .ne 12, 158, [167]), (158, .aload_n 0, 159, []), (159, .getfield 96, 162, [109, 7, 34]), (162, .iload_n 2, 163, []), 
  (163, .iaload, 164, []), (164, .goto 23, 167, [187]), (167, .iload_n 3, 168, []), (168, .iconst 3, 169, []), (169, .if_icmp .ne 12, 172, [181]), (172, .aload_n 0, 173, []), (173, .getfield 99, 176, [110, 7, 35]), 
  (176, .iload_n 2, 177, []), (177, .iaload, 178, []), (178, .goto 9, 181, [187]), (181, .aload_n 0, 182, []), (182, .getfield 102, 185, [111, 7, 36]), (185, .iload_n 2, 186, []), (186, .iaload, 187, []), 
  (187, .ireturn, 188, []), (188, .iload_n 3, 189, []), (189, .iconst 1, 190, []), (190, .if_icmp .ne 12, 193, [202]), (193, .aload_n 0, 194, []), (194, .getfield 13, 197, [77, 7, 2]), (197, .iload_n 2, 198, []), 
  (198, .iaload, 199, []), (199, .goto 51, 202, [250]), (202, .iload_n 3, 203, []), (203, .iconst 2, 204, []), (204, .if_icmp .ne 12, 207, [216]), (207, .aload_n 0, 208, []), (208, .getfield 16, 211, [78, 7, 3]), 
  (211, .iload_n 2, 212, []), (212, .iaload, 213, []), (213, .goto 37, 216, [250]), (216, .iload_n 3, 217, []), (217, .iconst 3, 218, []), (218, .if_icmp .ne 26, 221, [244]), (221, .iload 4, 223, []), 
  (223, .iconst 1, 224, []), (224, .if_icmp .ne 12, 227, [236]), (227, .aload_n 0, 228, []), (228, .getfield 19, 231, [79, 7, 4]), (231, .iload_n 2, 232, []), (232, .iaload, 233, []), (233, .goto 17, 236, [250]), 
  (236, .aload_n 0, 237, []), (237, .iload_n 2, 238, []), (238, .invokevirtual 184, 241, [2, 1, 121, 7, 1026, 1028, 24, 47, 1029]), (241, .goto 9, 244, [250]), (244, .aload_n 0, 245, []), 
  (245, .getfield 22, 248, [80, 7, 5]), (248, .iload_n 2, 249, []), (249, .iaload, 250, []), (250, .ireturn, 251, [])])
/-- TapeVaultModel.octet(ZII)I -/
def mi_142 : MI := (⟨"TapeVaultModel", "octet", "(ZII)I"⟩, prog_10_method_33_code, 4, (some FieldType.int), [], [
  (0, .aload_n 0, 1, []), (1, .iload_n 1, 2, []), (2, .ifCond .eq 14, 5, [16]), (5, .aload_n 0, 6, []), (6, .getfield 158, 9, [117, 7, 42]), (9, .ifCond .ne 7, 12, [16]), (12, .iconst 1, 13, []), (13, .goto 4, 16, [17]), 
  (16, .iconst 0, 17, []), (17, .iconst 1, 18, []), (18, .invokevirtual 133, 21, [2, 2, 112, 7, 843, 845, 21, 47, 846]), (21, .ifCond .eq 5, 24, [26]), (24, .iconst 0, 25, []), (25, .ireturn, 26, []), 
  (26, .aload_n 0, 27, []), (27, .iload_n 2, 28, []), (28, .ifCond .lt 33, 31, [61]), (31, .iload_n 2, 32, []), (32, .sipush 256, 35, []), (35, .if_icmp .ge 26, 38, [61]), (38, .iload_n 1, 39, []), 
  (39, .ifCond .eq 12, 42, [51]), (42, .aload_n 0, 43, []), (43, .getfield 90, 46, [107, 7, 32]), (46, .iload_n 2, 47, []), (47, .iaload, 48, []), (48, .goto 9, 51, [57]), (51, .aload_n 0, 52, []), 
  (52, .getfield 9, 55, [76, 7, 1]), (55, .iload_n 2, 56, []), (56, .iaload, 57, []), (57, .iconst 1, 58, []), (58, .if_icmp .eq 7, 61, [65]), (61, .iconst 1, 62, []), (62, .goto 4, 65, [66]), (65, .iconst 0, 66, []), 
  (66, .iconst 2, 67, []), (67, .invokevirtual 133, 70, [2, 2, 112, 7, 843, 845, 21, 47, 846]), (70, .ifCond .eq 5, 73, [75]), (73, .iconst 0, 74, []), (74, .ireturn, 75, []), (75, .aload_n 0, 76, []), 
  (76, .iload_n 3, 77, []), (77, .ifCond .lt 26, 80, [103]), (80, .iload_n 3, 81, []), (81, .iload_n 1, 82, []), (82, .ifCond .eq 12, 85, [94]), (85, .aload_n 0, 86, []), (86, .getfield 99, 89, [110, 7, 35]), 
  (89, .iload_n 2, 90, []), (90, .iaload, 91, []), (91, .goto 9, 94, [100]), (94, .aload_n 0, 95, []), (95, .getfield 19, 98, [79, 7, 4]), (98, .iload_n 2, 99, []), (99, .iaload, 100, []), (100, .if_icmp .lt 7, 103, [107]), 
  (103, .iconst 1, 104, []), (104, .goto 4, 107, [108]), (107, .iconst 0, 108, []), (108, .iconst 3, 109, []), (109, .invokevirtual 133, 112, [2, 2, 112, 7, 843, 845, 21, 47, 846]), (112, .ifCond .eq 5, 115, [117]), 
  (115, .iconst 0, 116, []), (116, .ireturn, 117, []), (117, .iload_n 1, 118, []), (118, .ifCond .eq 10, 121, [128]), (121, .aload_n 0, 122, []), (122, .getfield 111, 125, [114, 7, 39]), (125, .goto 7, 128, [132]), 
  (128, .aload_n 0, 129, []), (129, .getfield 27, 132, [81, 7, 6]), (132, .iload_n 2, 133, []), (133, .aaload, 134, []), (134, .iload_n 3, 135, []), (135, .baload, 136, []), (136, .sipush 255, 139, []), 
  (139, .iand, 140, []), (140, .ireturn, 141, [])])
/-- TapeVaultModel.find(ZII)I -/
def mi_143 : MI := (⟨"TapeVaultModel", "find", "(ZII)I"⟩, prog_10_method_34_code, 5, (some FieldType.int), [], [
  (0, .aload_n 0, 1, []), (1, .iload_n 1, 2, []), (2, .ifCond .eq 14, 5, [16]), (5, .aload_n 0, 6, []), (6, .getfield 158, 9, [117, 7, 42]), (9, .ifCond .ne 7, 12, [16]), (12, .iconst 1, 13, []), (13, .goto 4, 16, [17]), 
  (16, .iconst 0, 17, []), (17, .iconst 1, 18, []), (18, .invokevirtual 133, 21, [2, 2, 112, 7, 843, 845, 21, 47, 846]), (21, .ifCond .eq 5, 24, [26]), (24, .iconst 0, 25, []), (25, .ireturn, 26, []), 
  (26, .aload_n 0, 27, []), (27, .iload_n 2, 28, []), (28, .ifCond .lt 33, 31, [61]), (31, .iload_n 2, 32, []), (32, .sipush 256, 35, []), (35, .if_icmp .ge 26, 38, [61]), (38, .iload_n 1, 39, []), 
  (39, .ifCond .eq 12, 42, [51]), (42, .aload_n 0, 43, []), (43, .getfield 90, 46, [107, 7, 32]), (46, .iload_n 2, 47, []), (47, .iaload, 48, []), (48, .goto 9, 51, [57]), (51, .aload_n 0, 52, []), 
  (52, .getfield 9, 55, [76, 7, 1]), (55, .iload_n 2, 56, []), (56, .iaload, 57, []), (57, .iconst 2, 58, []), (58, .if_icmp .eq 7, 61, [65]), (61, .iconst 1, 62, []), (62, .goto 4, 65, [66]), (65, .iconst 0, 66, []), 
  (66, .iconst 2, 67, []), (67, .invokevirtual 133, 70, [2, 2, 112, 7, 843, 845, 21, 47, 846]), (70, .ifCond .eq 5, 73, [75]), (73, .iconst 0, 74, []), (74, .ireturn, 75, []), (75, .iload_n 1, 76, []), 
  (76, .ifCond .ne 10, 79, [86]), (79, .aload_n 0, 80, []), (80, .iload_n 2, 81, []), (81, .iload_n 3, 82, []), (82, .invokevirtual 175, 85, [2, 2, 116, 7, 1005, 1007, 23, 47, 1008]), (85, .ireturn, 86, []), 
  (86, .iconst 0, 87, []), (87, .istore 4, 89, []), (89, .iload 4, 91, []), (91, .aload_n 0, 92, []), (92, .getfield 105, 95, [112, 7, 37]), (95, .iload_n 2, 96, []), (96, .iaload, 97, []), 
  (97, .if_icmp .ge 32, 100, [129]), (100, .aload_n 0, 101, []), (101, .getfield 116, 104, [115, 7, 40]), (104, .iload_n 2, 105, []), (105, .aaload, 106, []), (106, .iload 4, 108, []), (108, .iaload, 109, []), 
  (109, .iload_n 3, 110, []), (110, .if_icmp .ne 13, 113, [123]), (113, .aload_n 0, 114, []), (114, .getfield 119, 117, [116, 7, 41]), (117, .iload_n 2, 118, []), (118, .aaload, 119, []), (119, .iload 4, 121, []), 
  (121, .iaload, 122, []), (122, .ireturn, 123, []), (123, .iinc 4 1, 126, []), (126, .goto (-37), 129, [89]), (129, .iconst (-1), 130, []), (130, .ireturn, 131, [])])
/-- TapeVaultModel.count(I)I -/
def mi_144 : MI := (⟨"TapeVaultModel", "count", "(I)I"⟩, prog_10_method_35_code, 4, (some FieldType.int), [], [
  (0, .aload_n 0, 1, []), (1, .iload_n 1, 2, []), (2, .ifCond .lt 9, 5, [11]), (5, .iload_n 1, 6, []), (6, .bipush 7, 8, []), (8, .if_icmp .le 7, 11, [15]), (11, .iconst 1, 12, []), (12, .goto 4, 15, [16]), 
  (15, .iconst 0, 16, []), (16, .iconst 1, 17, []), (17, .invokevirtual 133, 20, [2, 2, 112, 7, 843, 845, 21, 47, 846]), (20, .ifCond .eq 5, 23, [25]), (23, .iconst 0, 24, []), (24, .ireturn, 25, []), 
  (25, .iconst 0, 26, []), (26, .istore_n 2, 27, []), (27, .iconst 0, 28, []), (28, .istore_n 3, 29, []), (29, .iload_n 3, 30, []), (30, .sipush 256, 33, []), (33, .if_icmp .ge 21, 36, [54]), (36, .aload_n 0, 37, []), 
  (37, .getfield 9, 40, [76, 7, 1]), (40, .iload_n 3, 41, []), (41, .iaload, 42, []), (42, .ifCond .eq 6, 45, [48]), (45, .iinc 2 1, 48, []), (48, .iinc 3 1, 51, []), (51, .goto (-22), 54, [29]), (54, .iload_n 1, 55, []), 
  (55, .tableswitch 89 0 6 #[41, 46, 48, 53, 67, 79, 84], 96, [144, 96, 101, 103, 108, 122, 134, 139]), (96, .aload_n 0, 97, []), (97, .getfield 137, 100, [82, 7, 7]), (100, .ireturn, 101, []), (101, .iload_n 2, 102, []), 
  (102, .ireturn, 103, []), (103, .aload_n 0, 104, []), (104, .getfield 146, 107, [91, 7, 16]), (107, .ireturn, 108, []), (108, .aload_n 0, 109, []), (109, .getfield 143, 112, [84, 7, 9]), (112, .aload_n 0, 113, []), 
  (113, .getfield 140, 116, [83, 7, 8]), (116, .iconst 1, 117, []), (117, .isub, 118, []), (118, .invokestatic 188, 121, [0, 2, 124, 1038, 1039, 47, 1040]), (121, .ireturn, 122, []), (122, .aload_n 0, 123, []), 
  (123, .getfield 143, 126, [84, 7, 9]), (126, .aload_n 0, 127, []), (127, .getfield 140, 130, [83, 7, 8]), (130, .invokestatic 194, 133, [0, 2, 125, 1041, 1042, 47, 1043]), (133, .ireturn, 134, []), 
  (134, .aload_n 0, 135, []), (135, .getfield 162, 138, [118, 7, 43]), (138, .ireturn, 139, []), (139, .aload_n 0, 140, []), (140, .getfield 165, 143, [119, 7, 44]), (143, .ireturn, 144, []), (144, .aload_n 0, 145, []), 
  (145, .getfield 168, 148, [120, 7, 45]), (148, .ireturn, 149, [])])
/-- TapeVaultLaw.law([I)Z -/
def mi_145 : MI := (⟨"TapeVaultLaw", "law", "([I)Z"⟩, code, 8, (some .boolean), [], [
  (0, .new 8, 3, [0, 58]), (3, .dup, 4, []), (4, .invokespecial 67, 7, [4, 0, 0, 60, 61, 39, 62]), (7, .astore_n 1, 8, []), (8, .new 68, 11, [7, 825]), (11, .dup, 12, []), 
  (12, .invokespecial 70, 15, [4, 0, 110, 827, 828, 47, 829]), (15, .astore_n 2, 16, []), (16, .iconst 1, 17, []), (17, .newarray .long, 19, []), (19, .astore_n 3, 20, []), (20, .iconst 0, 21, []), (21, .istore 4, 23, []), 
  (23, .iload 4, 25, []), (25, .aload_n 0, 26, []), (26, .arraylength, 27, []), (27, .iconst 5, 28, []), (28, .isub, 29, []), (29, .if_icmp .gt 1056, 32, [1085]), (32, .aload_n 0, 33, []), (33, .iload 4, 35, []), 
  (35, .iaload, 36, []), (36, .bipush 15, 38, []), (38, .iand, 39, []), 
  (39, .tableswitch 1040 0 13 #[69, 105, 201, 313, 361, 421, 457, 513, 561, 640, 696, 792, 888, 984], 108, [1079, 108, 144, 240, 352, 400, 460, 496, 552, 600, 679, 735, 831, 927, 1023]), (108, .aload_n 1, 109, []), 
  (109, .aload_n 0, 110, []), (110, .iload 4, 112, []), (112, .iconst 1, 113, []), (113, .iadd, 114, []), (114, .iaload, 115, []), (115, .invokestatic 71, 118, [8, 2, 12, 255, 256, 38, 257]), (118, .istore 5, 120, []), 
  (120, .aload_n 2, 121, []), (121, .aload_n 0, 122, []), (122, .iload 4, 124, []), (124, .iconst 1, 125, []), (125, .iadd, 126, []), (126, .iaload, 127, []), 
  (127, .invokevirtual 76, 130, [2, 1, 111, 7, 996, 840, 841, 47, 842]), (130, .aload_n 2, 131, []), (131, .invokevirtual 77, 134, [2, 0, 113, 7, 992, 993, 994, 47, 995]), (134, .iload 5, 136, []), 
  (136, .if_icmp .eq 5, 139, [141]), (139, .iconst 0, 140, []), (140, .ireturn, 141, []), (141, .goto 938, 144, [1079]), (144, .aload_n 1, 145, []), (145, .aload_n 0, 146, []), (146, .iload 4, 148, []), 
  (148, .iconst 1, 149, []), (149, .iadd, 150, []), (150, .iaload, 151, []), (151, .aload_n 0, 152, []), (152, .iload 4, 154, []), (154, .iconst 2, 155, []), (155, .iadd, 156, []), (156, .iaload, 157, []), 
  (157, .aload_n 0, 158, []), (158, .iload 4, 160, []), (160, .iconst 3, 161, []), (161, .iadd, 162, []), (162, .iaload, 163, []), (163, .ifCond .eq 7, 166, [170]), (166, .iconst 1, 167, []), (167, .goto 4, 170, [171]), 
  (170, .iconst 0, 171, []), (171, .aload_n 3, 172, []), (172, .invokestatic 81, 175, [8, 5, 14, 327, 328, 38, 329]), (175, .istore 5, 177, []), (177, .aload_n 2, 178, []), (178, .aload_n 0, 179, []), 
  (179, .iload 4, 181, []), (181, .iconst 1, 182, []), (182, .iadd, 183, []), (183, .iaload, 184, []), (184, .aload_n 0, 185, []), (185, .iload 4, 187, []), (187, .iconst 2, 188, []), (188, .iadd, 189, []), 
  (189, .iaload, 190, []), (190, .aload_n 0, 191, []), (191, .iload 4, 193, []), (193, .iconst 3, 194, []), (194, .iadd, 195, []), (195, .iaload, 196, []), (196, .ifCond .eq 7, 199, [203]), (199, .iconst 1, 200, []), 
  (200, .goto 4, 203, [204]), (203, .iconst 0, 204, []), (204, .invokevirtual 84, 207, [2, 3, 114, 7, 997, 998, 999, 47, 1000]), (207, .istore 6, 209, []), (209, .aload_n 2, 210, []), 
  (210, .invokevirtual 77, 213, [2, 0, 113, 7, 992, 993, 994, 47, 995]), (213, .iload 5, 215, []), (215, .if_icmp .eq 5, 218, [220]), (218, .iconst 0, 219, []), (219, .ireturn, 220, []), (220, .iload 5, 222, []), 
  (222, .ifCond .ne 15, 225, [237]), (225, .aload_n 3, 226, []), (226, .iconst 0, 227, []), (227, .laload, 228, []), (228, .iload 6, 230, []), (230, .i2l, 231, []), (231, .lcmp, 232, []), (232, .ifCond .eq 5, 235, [237]), 
  (235, .iconst 0, 236, []), (236, .ireturn, 237, []), (237, .goto 842, 240, [1079]), (240, .aload_n 1, 241, []), (241, .aload_n 0, 242, []), (242, .iload 4, 244, []), (244, .iconst 1, 245, []), (245, .iadd, 246, []), 
  (246, .iaload, 247, []), (247, .aload_n 0, 248, []), (248, .iload 4, 250, []), (250, .iconst 2, 251, []), (251, .iadd, 252, []), (252, .iaload, 253, []), (253, .aload_n 0, 254, []), (254, .iload 4, 256, []), 
  (256, .iconst 3, 257, []), (257, .iadd, 258, []), (258, .iaload, 259, []), (259, .i2l, 260, []), (260, .bipush 32, 262, []), (262, .lshl, 263, []), (263, .aload_n 0, 264, []), (264, .iload 4, 266, []), 
  (266, .iconst 4, 267, []), (267, .iadd, 268, []), (268, .iaload, 269, []), (269, .i2l, 270, []), (270, .ldc2_w 85, 273, [1]), (273, .land, 274, []), (274, .lor, 275, []), (275, .aload_n 3, 276, []), 
  (276, .invokestatic 87, 279, [8, 5, 24, 396, 397, 38, 398]), (279, .istore 5, 281, []), (281, .aload_n 2, 282, []), (282, .aload_n 0, 283, []), (283, .iload 4, 285, []), (285, .iconst 1, 286, []), (286, .iadd, 287, []), 
  (287, .iaload, 288, []), (288, .aload_n 0, 289, []), (289, .iload 4, 291, []), (291, .iconst 2, 292, []), (292, .iadd, 293, []), (293, .iaload, 294, []), (294, .aload_n 0, 295, []), (295, .iload 4, 297, []), 
  (297, .iconst 3, 298, []), (298, .iadd, 299, []), (299, .iaload, 300, []), (300, .i2l, 301, []), (301, .bipush 32, 303, []), (303, .lshl, 304, []), (304, .aload_n 0, 305, []), (305, .iload 4, 307, []), 
  (307, .iconst 4, 308, []), (308, .iadd, 309, []), (309, .iaload, 310, []), (310, .i2l, 311, []), (311, .ldc2_w 85, 314, [1]), (314, .land, 315, []), (315, .lor, 316, []), 
  (316, .invokevirtual 90, 319, [2, 3, 117, 7, 1009, 1010, 1011, 47, 1012]), (319, .istore 6, 321, []), (321, .aload_n 2, 322, []), (322, .invokevirtual 77, 325, [2, 0, 113, 7, 992, 993, 994, 47, 995]), 
  (325, .iload 5, 327, []), (327, .if_icmp .eq 5, 330, [332]), (330, .iconst 0, 331, []), (331, .ireturn, 332, []), (332, .iload 5, 334, []), (334, .ifCond .ne 15, 337, [349]), (337, .aload_n 3, 338, []), 
  (338, .iconst 0, 339, []), (339, .laload, 340, []), (340, .iload 6, 342, []), (342, .i2l, 343, []), (343, .lcmp, 344, []), (344, .ifCond .eq 5, 347, [349]), (347, .iconst 0, 348, []), (348, .ireturn, 349, []), 
  (349, .goto 730, 352, [1079]), (352, .aload_n 1, 353, []), (353, .aload_n 0, 354, []), (354, .iload 4, 356, []), (356, .iconst 1, 357, []), (357, .iadd, 358, []), (358, .iaload, 359, []), (359, .aload_n 0, 360, []), 
  (360, .iload 4, 362, []), (362, .iconst 2, 363, []), (363, .iadd, 364, []), (364, .iaload, 365, []), (365, .invokestatic 91, 368, [8, 3, 29, 416, 417, 38, 418]), (368, .istore 5, 370, []), (370, .aload_n 2, 371, []), 
  (371, .aload_n 0, 372, []), (372, .iload 4, 374, []), (374, .iconst 1, 375, []), (375, .iadd, 376, []), (376, .iaload, 377, []), (377, .aload_n 0, 378, []), (378, .iload 4, 380, []), (380, .iconst 2, 381, []), 
  (381, .iadd, 382, []), (382, .iaload, 383, []), (383, .invokevirtual 94, 386, [2, 2, 118, 7, 1014, 1015, 1016, 47, 1017]), (386, .aload_n 2, 387, []), (387, .invokevirtual 77, 390, [2, 0, 113, 7, 992, 993, 994, 47, 995]), 
  (390, .iload 5, 392, []), (392, .if_icmp .eq 5, 395, [397]), (395, .iconst 0, 396, []), (396, .ireturn, 397, []), (397, .goto 682, 400, [1079]), (400, .aload_n 1, 401, []), (401, .aload_n 0, 402, []), 
  (402, .iload 4, 404, []), (404, .iconst 1, 405, []), (405, .iadd, 406, []), (406, .iaload, 407, []), (407, .aload_n 0, 408, []), (408, .iload 4, 410, []), (410, .iconst 2, 411, []), (411, .iadd, 412, []), 
  (412, .iaload, 413, []), (413, .aload_n 0, 414, []), (414, .iload 4, 416, []), (416, .iconst 3, 417, []), (417, .iadd, 418, []), (418, .iaload, 419, []), (419, .invokestatic 95, 422, [8, 4, 32, 427, 428, 38, 429]), 
  (422, .istore 5, 424, []), (424, .aload_n 2, 425, []), (425, .aload_n 0, 426, []), (426, .iload 4, 428, []), (428, .iconst 1, 429, []), (429, .iadd, 430, []), (430, .iaload, 431, []), (431, .aload_n 0, 432, []), 
  (432, .iload 4, 434, []), (434, .iconst 2, 435, []), (435, .iadd, 436, []), (436, .iaload, 437, []), (437, .aload_n 0, 438, []), (438, .iload 4, 440, []), (440, .iconst 3, 441, []), (441, .iadd, 442, []), 
  (442, .iaload, 443, []), (443, .invokevirtual 98, 446, [2, 3, 119, 7, 1018, 1019, 1020, 47, 1021]), (446, .aload_n 2, 447, []), (447, .invokevirtual 77, 450, [2, 0, 113, 7, 992, 993, 994, 47, 995]), 
  (450, .iload 5, 452, []), (452, .if_icmp .eq 5, 455, [457]), (455, .iconst 0, 456, []), (456, .ireturn, 457, []), (457, .goto 622, 460, [1079]), (460, .aload_n 1, 461, []), (461, .aload_n 0, 462, []), 
  (462, .iload 4, 464, []), (464, .iconst 1, 465, []), (465, .iadd, 466, []), (466, .iaload, 467, []), (467, .invokestatic 99, 470, [8, 2, 39, 471, 472, 38, 473]), (470, .istore 5, 472, []), (472, .aload_n 2, 473, []), 
  (473, .aload_n 0, 474, []), (474, .iload 4, 476, []), (476, .iconst 1, 477, []), (477, .iadd, 478, []), (478, .iaload, 479, []), (479, .invokevirtual 101, 482, [2, 1, 120, 7, 1022, 1023, 1024, 47, 1025]), 
  (482, .aload_n 2, 483, []), (483, .invokevirtual 77, 486, [2, 0, 113, 7, 992, 993, 994, 47, 995]), (486, .iload 5, 488, []), (488, .if_icmp .eq 5, 491, [493]), (491, .iconst 0, 492, []), (492, .ireturn, 493, []), 
  (493, .goto 586, 496, [1079]), (496, .aload_n 1, 497, []), (497, .aload_n 0, 498, []), (498, .iload 4, 500, []), (500, .iconst 1, 501, []), (501, .iadd, 502, []), (502, .iaload, 503, []), (503, .aload_n 3, 504, []), 
  (504, .invokestatic 102, 507, [8, 3, 42, 482, 483, 38, 484]), (507, .istore 5, 509, []), (509, .aload_n 2, 510, []), (510, .aload_n 0, 511, []), (511, .iload 4, 513, []), (513, .iconst 1, 514, []), (514, .iadd, 515, []), 
  (515, .iaload, 516, []), (516, .invokevirtual 105, 519, [2, 1, 122, 7, 1030, 1031, 1032, 47, 1033]), (519, .istore 6, 521, []), (521, .aload_n 2, 522, []), 
  (522, .invokevirtual 77, 525, [2, 0, 113, 7, 992, 993, 994, 47, 995]), (525, .iload 5, 527, []), (527, .if_icmp .eq 5, 530, [532]), (530, .iconst 0, 531, []), (531, .ireturn, 532, []), (532, .iload 5, 534, []), 
  (534, .ifCond .ne 15, 537, [549]), (537, .aload_n 3, 538, []), (538, .iconst 0, 539, []), (539, .laload, 540, []), (540, .iload 6, 542, []), (542, .i2l, 543, []), (543, .lcmp, 544, []), (544, .ifCond .eq 5, 547, [549]), 
  (547, .iconst 0, 548, []), (548, .ireturn, 549, []), (549, .goto 530, 552, [1079]), (552, .aload_n 1, 553, []), (553, .aload_n 0, 554, []), (554, .iload 4, 556, []), (556, .iconst 1, 557, []), (557, .iadd, 558, []), 
  (558, .iaload, 559, []), (559, .aload_n 0, 560, []), (560, .iload 4, 562, []), (562, .iconst 2, 563, []), (563, .iadd, 564, []), (564, .iaload, 565, []), (565, .invokestatic 106, 568, [8, 3, 68, 647, 648, 38, 649]), 
  (568, .istore 5, 570, []), (570, .aload_n 2, 571, []), (571, .aload_n 0, 572, []), (572, .iload 4, 574, []), (574, .iconst 1, 575, []), (575, .iadd, 576, []), (576, .iaload, 577, []), (577, .aload_n 0, 578, []), 
  (578, .iload 4, 580, []), (580, .iconst 2, 581, []), (581, .iadd, 582, []), (582, .iaload, 583, []), (583, .invokevirtual 108, 586, [2, 2, 127, 7, 1048, 1049, 1050, 47, 1051]), (586, .aload_n 2, 587, []), 
  (587, .invokevirtual 77, 590, [2, 0, 113, 7, 992, 993, 994, 47, 995]), (590, .iload 5, 592, []), (592, .if_icmp .eq 5, 595, [597]), (595, .iconst 0, 596, []), (596, .ireturn, 597, []), (597, .goto 482, 600, [1079]), 
  (600, .aload_n 1, 601, []), (601, .aload_n 0, 602, []), (602, .iload 4, 604, []), (604, .iconst 1, 605, []), (605, .iadd, 606, []), (606, .iaload, 607, []), (607, .aload_n 0, 608, []), (608, .iload 4, 610, []), 
  (610, .iconst 2, 611, []), (611, .iadd, 612, []), (612, .iaload, 613, []), (613, .aload_n 0, 614, []), (614, .iload 4, 616, []), (616, .iconst 3, 617, []), (617, .iadd, 618, []), (618, .iaload, 619, []), 
  (619, .aload_n 3, 620, []), (620, .invokestatic 109, 623, [8, 5, 72, 662, 663, 38, 664]), (623, .istore 5, 625, []), (625, .aload_n 2, 626, []), (626, .aload_n 0, 627, []), (627, .iload 4, 629, []), 
  (629, .iconst 1, 630, []), (630, .iadd, 631, []), (631, .iaload, 632, []), (632, .aload_n 0, 633, []), (633, .iload 4, 635, []), (635, .iconst 2, 636, []), (636, .iadd, 637, []), (637, .iaload, 638, []), 
  (638, .aload_n 0, 639, []), (639, .iload 4, 641, []), (641, .iconst 3, 642, []), (642, .iadd, 643, []), (643, .iaload, 644, []), (644, .invokevirtual 112, 647, [2, 3, 130, 7, 1060, 1061, 1062, 47, 1063]), 
  (647, .lstore 6, 649, []), (649, .aload_n 2, 650, []), (650, .invokevirtual 77, 653, [2, 0, 113, 7, 992, 993, 994, 47, 995]), (653, .iload 5, 655, []), (655, .if_icmp .eq 5, 658, [660]), (658, .iconst 0, 659, []), 
  (659, .ireturn, 660, []), (660, .iload 5, 662, []), (662, .ifCond .ne 14, 665, [676]), (665, .aload_n 3, 666, []), (666, .iconst 0, 667, []), (667, .laload, 668, []), (668, .lload 6, 670, []), (670, .lcmp, 671, []), 
  (671, .ifCond .eq 5, 674, [676]), (674, .iconst 0, 675, []), (675, .ireturn, 676, []), (676, .goto 403, 679, [1079]), (679, .aload_n 1, 680, []), (680, .aload_n 0, 681, []), (681, .iload 4, 683, []), 
  (683, .iconst 1, 684, []), (684, .iadd, 685, []), (685, .iaload, 686, []), (686, .aload_n 3, 687, []), (687, .invokestatic 113, 690, [8, 3, 76, 677, 678, 38, 679]), (690, .istore 5, 692, []), (692, .aload_n 2, 693, []), 
  (693, .aload_n 0, 694, []), (694, .iload 4, 696, []), (696, .iconst 1, 697, []), (697, .iadd, 698, []), (698, .iaload, 699, []), (699, .invokevirtual 115, 702, [2, 1, 137, 7, 1089, 1090, 1091, 47, 1092]), 
  (702, .istore 6, 704, []), (704, .aload_n 2, 705, []), (705, .invokevirtual 77, 708, [2, 0, 113, 7, 992, 993, 994, 47, 995]), (708, .iload 5, 710, []), (710, .if_icmp .eq 5, 713, [715]), (713, .iconst 0, 714, []), 
  (714, .ireturn, 715, []), (715, .iload 5, 717, []), (717, .ifCond .ne 15, 720, [732]), (720, .aload_n 3, 721, []), (721, .iconst 0, 722, []), (722, .laload, 723, []), (723, .iload 6, 725, []), (725, .i2l, 726, []), 
  (726, .lcmp, 727, []), (727, .ifCond .eq 5, 730, [732]), (730, .iconst 0, 731, []), (731, .ireturn, 732, []), (732, .goto 347, 735, [1079]), (735, .aload_n 1, 736, []), (736, .aload_n 0, 737, []), 
  (737, .iload 4, 739, []), (739, .iconst 1, 740, []), (740, .iadd, 741, []), (741, .iaload, 742, []), (742, .ifCond .eq 7, 745, [749]), (745, .iconst 1, 746, []), (746, .goto 4, 749, [750]), (749, .iconst 0, 750, []), 
  (750, .aload_n 0, 751, []), (751, .iload 4, 753, []), (753, .iconst 2, 754, []), (754, .iadd, 755, []), (755, .iaload, 756, []), (756, .aload_n 0, 757, []), (757, .iload 4, 759, []), (759, .iconst 3, 760, []), 
  (760, .iadd, 761, []), (761, .iaload, 762, []), (762, .aload_n 3, 763, []), (763, .invokestatic 116, 766, [8, 5, 91, 742, 743, 38, 744]), (766, .istore 5, 768, []), (768, .aload_n 2, 769, []), (769, .aload_n 0, 770, []), 
  (770, .iload 4, 772, []), (772, .iconst 1, 773, []), (773, .iadd, 774, []), (774, .iaload, 775, []), (775, .ifCond .eq 7, 778, [782]), (778, .iconst 1, 779, []), (779, .goto 4, 782, [783]), (782, .iconst 0, 783, []), 
  (783, .aload_n 0, 784, []), (784, .iload 4, 786, []), (786, .iconst 2, 787, []), (787, .iadd, 788, []), (788, .iaload, 789, []), (789, .aload_n 0, 790, []), (790, .iload 4, 792, []), (792, .iconst 3, 793, []), 
  (793, .iadd, 794, []), (794, .iaload, 795, []), (795, .invokevirtual 119, 798, [2, 3, 141, 7, 1105, 1106, 1107, 47, 1108]), (798, .istore 6, 800, []), (800, .aload_n 2, 801, []), 
  (801, .invokevirtual 77, 804, [2, 0, 113, 7, 992, 993, 994, 47, 995]), (804, .iload 5, 806, []), (806, .if_icmp .eq 5, 809, [811]), (809, .iconst 0, 810, []), (810, .ireturn, 811, []), (811, .iload 5, 813, []), 
  (813, .ifCond .ne 15, 816, [828]), (816, .aload_n 3, 817, []), (817, .iconst 0, 818, []), (818, .laload, 819, []), (819, .iload 6, 821, []), (821, .i2l, 822, []), (822, .lcmp, 823, []), (823, .ifCond .eq 5, 826, [828]), 
  (826, .iconst 0, 827, []), (827, .ireturn, 828, []), (828, .goto 251, 831, [1079]), (831, .aload_n 1, 832, []), (832, .aload_n 0, 833, []), (833, .iload 4, 835, []), (835, .iconst 1, 836, []), (836, .iadd, 837, []), 
  (837, .iaload, 838, []), (838, .ifCond .eq 7, 841, [845]), (841, .iconst 1, 842, []), (842, .goto 4, 845, [846]), (845, .iconst 0, 846, []), (846, .aload_n 0, 847, []), (847, .iload 4, 849, []), (849, .iconst 2, 850, []), 
  (850, .iadd, 851, []), (851, .iaload, 852, []), (852, .aload_n 0, 853, []), (853, .iload 4, 855, []), (855, .iconst 3, 856, []), (856, .iadd, 857, []), (857, .iaload, 858, []), (858, .aload_n 3, 859, []), 
  (859, .invokestatic 120, 862, [8, 5, 98, 773, 774, 38, 775]), (862, .istore 5, 864, []), (864, .aload_n 2, 865, []), (865, .aload_n 0, 866, []), (866, .iload 4, 868, []), (868, .iconst 1, 869, []), (869, .iadd, 870, []), 
  (870, .iaload, 871, []), (871, .ifCond .eq 7, 874, [878]), (874, .iconst 1, 875, []), (875, .goto 4, 878, [879]), (878, .iconst 0, 879, []), (879, .aload_n 0, 880, []), (880, .iload 4, 882, []), (882, .iconst 2, 883, []), 
  (883, .iadd, 884, []), (884, .iaload, 885, []), (885, .aload_n 0, 886, []), (886, .iload 4, 888, []), (888, .iconst 3, 889, []), (889, .iadd, 890, []), (890, .iaload, 891, []), 
  (891, .invokevirtual 122, 894, [2, 3, 142, 7, 1109, 1110, 1111, 47, 1112]), (894, .istore 6, 896, []), (896, .aload_n 2, 897, []), (897, .invokevirtual 77, 900, [2, 0, 113, 7, 992, 993, 994, 47, 995]), 
  (900, .iload 5, 902, []), (902, .if_icmp .eq 5, 905, [907]), (905, .iconst 0, 906, []), (906, .ireturn, 907, []), (907, .iload 5, 909, []), (909, .ifCond .ne 15, 912, [924]), (912, .aload_n 3, 913, []), 
  (913, .iconst 0, 914, []), (914, .laload, 915, []), (915, .iload 6, 917, []), (917, .i2l, 918, []), (918, .lcmp, 919, []), (919, .ifCond .eq 5, 922, [924]), (922, .iconst 0, 923, []), (923, .ireturn, 924, []), 
  (924, .goto 155, 927, [1079]), (927, .aload_n 1, 928, []), (928, .aload_n 0, 929, []), (929, .iload 4, 931, []), (931, .iconst 1, 932, []), (932, .iadd, 933, []), (933, .iaload, 934, []), (934, .ifCond .eq 7, 937, [941]), 
  (937, .iconst 1, 938, []), (938, .goto 4, 941, [942]), (941, .iconst 0, 942, []), (942, .aload_n 0, 943, []), (943, .iload 4, 945, []), (945, .iconst 2, 946, []), (946, .iadd, 947, []), (947, .iaload, 948, []), 
  (948, .aload_n 0, 949, []), (949, .iload 4, 951, []), (951, .iconst 3, 952, []), (952, .iadd, 953, []), (953, .iaload, 954, []), (954, .aload_n 3, 955, []), (955, .invokestatic 123, 958, [8, 5, 103, 795, 796, 38, 797]), 
  (958, .istore 5, 960, []), (960, .aload_n 2, 961, []), (961, .aload_n 0, 962, []), (962, .iload 4, 964, []), (964, .iconst 1, 965, []), (965, .iadd, 966, []), (966, .iaload, 967, []), (967, .ifCond .eq 7, 970, [974]), 
  (970, .iconst 1, 971, []), (971, .goto 4, 974, [975]), (974, .iconst 0, 975, []), (975, .aload_n 0, 976, []), (976, .iload 4, 978, []), (978, .iconst 2, 979, []), (979, .iadd, 980, []), (980, .iaload, 981, []), 
  (981, .aload_n 0, 982, []), (982, .iload 4, 984, []), (984, .iconst 3, 985, []), (985, .iadd, 986, []), (986, .iaload, 987, []), (987, .invokevirtual 125, 990, [2, 3, 143, 7, 1113, 1114, 1115, 47, 1116]), 
  (990, .istore 6, 992, []), (992, .aload_n 2, 993, []), (993, .invokevirtual 77, 996, [2, 0, 113, 7, 992, 993, 994, 47, 995]), (996, .iload 5, 998, []), (998, .if_icmp .eq 5, 1001, [1003]), (1001, .iconst 0, 1002, []), 
  (1002, .ireturn, 1003, []), (1003, .iload 5, 1005, []), (1005, .ifCond .ne 15, 1008, [1020]), (1008, .aload_n 3, 1009, []), (1009, .iconst 0, 1010, []), (1010, .laload, 1011, []), (1011, .iload 6, 1013, []), 
  (1013, .i2l, 1014, []), (1014, .lcmp, 1015, []), (1015, .ifCond .eq 5, 1018, [1020]), (1018, .iconst 0, 1019, []), (1019, .ireturn, 1020, []), (1020, .goto 59, 1023, [1079]), (1023, .aload_n 1, 1024, []), 
  (1024, .aload_n 0, 1025, []), (1025, .iload 4, 1027, []), (1027, .iconst 1, 1028, []), (1028, .iadd, 1029, []), (1029, .iaload, 1030, []), (1030, .aload_n 3, 1031, []), 
  (1031, .invokestatic 126, 1034, [8, 3, 107, 814, 815, 38, 816]), (1034, .istore 5, 1036, []), (1036, .aload_n 2, 1037, []), (1037, .aload_n 0, 1038, []), (1038, .iload 4, 1040, []), (1040, .iconst 1, 1041, []), 
  (1041, .iadd, 1042, []), (1042, .iaload, 1043, []), (1043, .invokevirtual 128, 1046, [2, 1, 144, 7, 1117, 1118, 1119, 47, 1120]), (1046, .istore 6, 1048, []), (1048, .aload_n 2, 1049, []), 
  (1049, .invokevirtual 77, 1052, [2, 0, 113, 7, 992, 993, 994, 47, 995]), (1052, .iload 5, 1054, []), (1054, .if_icmp .eq 5, 1057, [1059]), (1057, .iconst 0, 1058, []), (1058, .ireturn, 1059, []), 
  (1059, .iload 5, 1061, []), (1061, .ifCond .ne 15, 1064, [1076]), (1064, .aload_n 3, 1065, []), (1065, .iconst 0, 1066, []), (1066, .laload, 1067, []), (1067, .iload 6, 1069, []), (1069, .i2l, 1070, []), 
  (1070, .lcmp, 1071, []), (1071, .ifCond .eq 5, 1074, [1076]), (1074, .iconst 0, 1075, []), (1075, .ireturn, 1076, []), (1076, .goto 3, 1079, [1079]), (1079, .iinc 4 5, 1082, []), (1082, .goto (-1059), 1085, [23]), 
  (1085, .iconst 1, 1086, []), (1086, .ireturn, 1087, [])])
def mt : List MI := [mi_0, mi_1, mi_2, mi_3, mi_4, mi_5, mi_6, mi_7, mi_8, mi_9, mi_10, mi_11, mi_12, mi_13, mi_14, mi_15, mi_16, mi_17, mi_18, mi_19, mi_20, mi_21, mi_22, mi_23, mi_24, mi_25, mi_26, mi_27, mi_28, mi_29, mi_30, mi_31, mi_32, mi_33, mi_34, mi_35, mi_36, mi_37, mi_38, mi_39, mi_40, mi_41, mi_42, mi_43, mi_44, mi_45, mi_46, mi_47, mi_48, mi_49, mi_50, mi_51, mi_52, mi_53, mi_54, mi_55, mi_56, mi_57, mi_58, mi_59, mi_60, mi_61, mi_62, mi_63, mi_64, mi_65, mi_66, mi_67, mi_68, mi_69, mi_70, mi_71, mi_72, mi_73, mi_74, mi_75, mi_76, mi_77, mi_78, mi_79, mi_80, mi_81, mi_82, mi_83, mi_84, mi_85, mi_86, mi_87, mi_88, mi_89, mi_90, mi_91, mi_92, mi_93, mi_94, mi_95, mi_96, mi_97, mi_98, mi_99, mi_100, mi_101, mi_102, mi_103, mi_104, mi_105, mi_106, mi_107, mi_108, mi_109, mi_110, mi_111, mi_112, mi_113, mi_114, mi_115, mi_116, mi_117, mi_118, mi_119, mi_120, mi_121, mi_122, mi_123, mi_124, mi_125, mi_126, mi_127, mi_128, mi_129, mi_130, mi_131, mi_132, mi_133, mi_134, mi_135, mi_136, mi_137, mi_138, mi_139, mi_140, mi_141, mi_142, mi_143, mi_144]
end
section
/-! the run of a method's frame: steps, calls, returns, throws -/
abbrev RO : Type := Option Value ⊕ Nat
def mY (M : MI) : MethodName := M.1
def mB (M : MI) : ByteArray := M.2.1
def mL (M : MI) : Nat := M.2.2.1
def mR (M : MI) : Option FieldType := M.2.2.2.1
def mH (M : MI) : List (Nat × Nat × Nat × Nat) := M.2.2.2.2.1
def mE (M : MI) : List EN := M.2.2.2.2.2
def fet (E : List EN) (pc : Nat) : Option (Instr × Nat × List Nat) := match E with
  | [] => none
  | e :: t => bif Nat.beq e.1 pc then some e.2 else fet t pc
def popN : Nat → List Value → Option (List Value × List Value)
  | 0, st => some ([], st)
  | n + 1, st => match st with
    | v :: r => match popN n r with
      | some q => some (q.1 ++ [v], q.2)
      | none => none
    | [] => none
def ent1 (v : Value) : List (Option Value) := match v with
  | .long x => [some (.long x), none]
  | .double x => [some (.double x), none]
  | v => [some v]
def ent (nL : Nat) (vs : List Value) : List (Option Value) := vs.flatMap ent1 ++ List.replicate (nL - (vs.flatMap ent1).length) none
def wsum (st : List Value) : Nat := (st.map fun v => v.category).sum
def retV (rt : Option FieldType) (ins : Instr) (st : List Value) : Option (Option Value) := match ins, st, rt with
  | .ireturn, [.int v], some .int => some (some (.int v))
  | .ireturn, [.int v], some .boolean => if v = 0 ∨ v = 1 then some (some (.int v)) else none
  | .lreturn, [.long v], some .long => some (some (.long v))
  | .areturn, [.ref a], some (.object _) => some (some (.ref a))
  | .areturn, [.null], some (.object _) => some (some .null)
  | .areturn, [.ref a], some (.array _) => some (some (.ref a))
  | .return_, [], none => some none
  | _, _, _ => none
/-- the classes that the law's handlers name -/
def hcl : List (Nat × Nat) := [(13, 0), (19, 1), (21, 2), (35, 3)]
def fh (hh : List (Nat × Nat × Nat × Nat)) (pc E : Nat) : Option Nat := match hh with
  | [] => none
  | q :: t => if q.1 ≤ pc ∧ pc < q.2.1 then (match hcl.lookup q.2.2.2 with
      | some F => if F = E then some q.2.2.1 else fh t pc E
      | none => none)
    else fh t pc E
/-- the method that a call comes to, its receiver, what is left on the stack -/
def tgtM (kd k : Nat) (t : List Nat) (r : List Value) (h : AH) : Option (Nat × List Value × List Value) := match kd with
  | 0 => some (k, [], r)
  | 1 => some (k, [], r)
  | 8 => some (k, [], r)
  | 4 => match r with
    | .ref a :: r => some (k, [.ref a], r)
    | _ => none
  | 5 => match r with
    | .ref a :: r => some (k, [.ref a], r)
    | _ => none
  | 6 => match r, t with
    | .ref a :: r, k2 :: _ => match h.2.2 a with
      | some (.inr (1, _)) => some (k, [.ref a], r)
      | some (.inr (4, _)) => some (k2, [.ref a], r)
      | _ => none
    | _, _ => none
  | 2 => match r, t with
    | .ref a :: r, ci :: _ => match h.2.2 a with
      | some (.inr (cj, _)) => if cj = ci then some (k, [.ref a], r) else none
      | _ => none
    | _, _ => none
  | 9 => match r, t with
    | .ref a :: r, ci :: _ => match h.2.2 a with
      | some (.inr (cj, _)) => if cj = ci then some (k, [.ref a], r) else none
      | _ => none
    | _, _ => none
  | _ => none
def cpV (f g : Nat → Value) (sp dp n : Nat) : Nat → Value := fun k => if dp ≤ k ∧ k < dp + n then f (sp + (k - dp)) else g k
/-- System.arraycopy between two arrays of one type -/
def acp (st : List Value) (h : AH) : Option (List Value × AH) := match st with
  | .int n :: .int dp :: .ref a :: .int sp :: .ref a0 :: r => match h.2.2 a0, h.2.2 a with
    | some (.inl (.long, n0, f)), some (.inl (.long, n1, g)) => if ¬ sp < 0 ∧ ¬ dp < 0 ∧ ¬ n < 0 ∧ sp.toNatClampNeg + n.toNatClampNeg ≤ n0 ∧ dp.toNatClampNeg + n.toNatClampNeg ≤ n1 then some (r, hput h a (.inl (.long, n1, cpV f g sp.toNatClampNeg dp.toNatClampNeg n.toNatClampNeg))) else none
    | some (.inl (.byte, n0, f)), some (.inl (.byte, n1, g)) => if ¬ sp < 0 ∧ ¬ dp < 0 ∧ ¬ n < 0 ∧ sp.toNatClampNeg + n.toNatClampNeg ≤ n0 ∧ dp.toNatClampNeg + n.toNatClampNeg ≤ n1 then some (r, hput h a (.inl (.byte, n1, cpV f g sp.toNatClampNeg dp.toNatClampNeg n.toNatClampNeg))) else none
    | _, _ => none
  | _ => none
def runF (sb sL : Nat) (sx : Nat → Int32) : Nat → Nat → MI → Nat → List (Option Value) → List Value → AH → Option (AH × RO)
  | 0, _, _, _, _, _, _ => none
  | n + 1, d, M, pc, lv, st, h => match fet (mE M) pc with
    | none => none
    | some (ins, nx, ri) =>
      let step := match stp sb sL sx (mL M) ins nx ri lv st h with
        | some z => runF sb sL sx n d M z.1 z.2.1 z.2.2.1 z.2.2.2
        | none => none
      let fin := match retV (mR M) ins st with
        | some v => some (h, (.inl v : RO))
        | none => none
      let call := match ri with
        | 10 :: _ => match st with
          | .ref _ :: r => if 1 ≤ d ∧ wsum r ≤ 8 then runF sb sL sx n d M nx lv r h else none
          | _ => none
        | 7 :: _ => match acp st h with
          | some z => if 2 ≤ d ∧ wsum z.1 ≤ 8 then runF sb sL sx n d M nx lv z.1 z.2 else none
          | none => none
        | 11 :: _ => match st with
          | .int y :: .int x :: r => if 1 ≤ d ∧ wsum r ≤ 8 then runF sb sL sx n d M nx lv (.int (if x < y then y else x) :: r) h else none
          | _ => none
        | 12 :: _ => match st with
          | .int y :: .int x :: r => if 1 ≤ d ∧ wsum r ≤ 8 then runF sb sL sx n d M nx lv (.int (if y < x then y else x) :: r) h else none
          | _ => none
        | kd :: na :: k :: t => match d with
          | 0 => none
          | d' + 1 => match popN na st with
            | none => none
            | some z => match tgtM kd k t z.2 h with
              | none => none
              | some (k', rc, r) => match mt[k']? with
                | none => none
                | some M' => if ((rc ++ z.1).flatMap ent1).length ≤ mL M' ∧ wsum r ≤ 8 then (match runF sb sL sx n d' M' 0 (ent (mL M') (rc ++ z.1)) [] h with
                    | none => none
                    | some (h', .inl v) => runF sb sL sx n (d' + 1) M nx lv (v.toList ++ r) h'
                    | some (h', .inr E) => if kd = 9 then (match fh (mH M) pc E with
                      | none => none
                      | some hp => match fet (mE M) hp with
                        | some (.astore_n q, nx2, _) => if (q : Nat) < mL M then runF sb sL sx n (d' + 1) M nx2 ((lv1 lv q .null).set q none) [] h' else none
                        | some (.astore q, nx2, _) => if q < mL M then runF sb sL sx n (d' + 1) M nx2 ((lv1 lv q .null).set q none) [] h' else none
                        | _ => none) else none)
                  else none
        | _ => none
      match ins with
      | .ireturn => fin
      | .lreturn => fin
      | .areturn => fin
      | .return_ => fin
      | .invokevirtual _ => call
      | .invokespecial _ => call
      | .invokestatic _ => call
      | .new _ => match ri with
        | 50 :: E :: _ => if 5 < d ∧ wsum st ≤ 8 then some (hskip h 6, .inr E) else none
        | _ => step
      | _ => step
/-! what is checked of the calls -/
def cwd (M : MI) : Cond := match mH M with
  | [] => .code (mY M) (mB M) (mL M) (mR M)
  | hh => .codeWith (mY M) (mB M) (mL M) (mR M) hh
set_option maxRecDepth 20000 in
theorem cw_0 : lw_tbl[62]? = some (cwd mi_0) := rfl
set_option maxRecDepth 20000 in
theorem cw_1 : lw_tbl[70]? = some (cwd mi_1) := rfl
set_option maxRecDepth 20000 in
theorem cw_2 : lw_tbl[73]? = some (cwd mi_2) := rfl
set_option maxRecDepth 20000 in
theorem cw_3 : lw_tbl[93]? = some (cwd mi_3) := rfl
set_option maxRecDepth 20000 in
theorem cw_4 : lw_tbl[119]? = some (cwd mi_4) := rfl
set_option maxRecDepth 20000 in
theorem cw_5 : lw_tbl[132]? = some (cwd mi_5) := rfl
set_option maxRecDepth 20000 in
theorem cw_6 : lw_tbl[169]? = some (cwd mi_6) := rfl
set_option maxRecDepth 20000 in
theorem cw_7 : lw_tbl[173]? = some (cwd mi_7) := rfl
set_option maxRecDepth 20000 in
theorem cw_8 : lw_tbl[177]? = some (cwd mi_8) := rfl
set_option maxRecDepth 20000 in
theorem cw_9 : lw_tbl[224]? = some (cwd mi_9) := rfl
set_option maxRecDepth 20000 in
theorem cw_10 : lw_tbl[231]? = some (cwd mi_10) := rfl
set_option maxRecDepth 20000 in
theorem cw_11 : lw_tbl[235]? = some (cwd mi_11) := rfl
set_option maxRecDepth 20000 in
theorem cw_12 : lw_tbl[257]? = some (cwd mi_12) := rfl
set_option maxRecDepth 20000 in
theorem cw_13 : lw_tbl[262]? = some (cwd mi_13) := rfl
set_option maxRecDepth 20000 in
theorem cw_14 : lw_tbl[329]? = some (cwd mi_14) := rfl
set_option maxRecDepth 20000 in
theorem cw_15 : lw_tbl[335]? = some (cwd mi_15) := rfl
set_option maxRecDepth 20000 in
theorem cw_16 : lw_tbl[339]? = some (cwd mi_16) := rfl
set_option maxRecDepth 20000 in
theorem cw_17 : lw_tbl[343]? = some (cwd mi_17) := rfl
set_option maxRecDepth 20000 in
theorem cw_18 : lw_tbl[346]? = some (cwd mi_18) := rfl
set_option maxRecDepth 20000 in
theorem cw_19 : lw_tbl[349]? = some (cwd mi_19) := rfl
set_option maxRecDepth 20000 in
theorem cw_20 : lw_tbl[353]? = some (cwd mi_20) := rfl
set_option maxRecDepth 20000 in
theorem cw_21 : lw_tbl[372]? = some (cwd mi_21) := rfl
set_option maxRecDepth 20000 in
theorem cw_22 : lw_tbl[391]? = some (cwd mi_22) := rfl
set_option maxRecDepth 20000 in
theorem cw_23 : lw_tbl[395]? = some (cwd mi_23) := rfl
set_option maxRecDepth 20000 in
theorem cw_24 : lw_tbl[398]? = some (cwd mi_24) := rfl
set_option maxRecDepth 20000 in
theorem cw_25 : lw_tbl[402]? = some (cwd mi_25) := rfl
set_option maxRecDepth 20000 in
theorem cw_26 : lw_tbl[406]? = some (cwd mi_26) := rfl
set_option maxRecDepth 20000 in
theorem cw_27 : lw_tbl[410]? = some (cwd mi_27) := rfl
set_option maxRecDepth 20000 in
theorem cw_28 : lw_tbl[414]? = some (cwd mi_28) := rfl
set_option maxRecDepth 20000 in
theorem cw_29 : lw_tbl[418]? = some (cwd mi_29) := rfl
set_option maxRecDepth 20000 in
theorem cw_30 : lw_tbl[422]? = some (cwd mi_30) := rfl
set_option maxRecDepth 20000 in
theorem cw_31 : lw_tbl[426]? = some (cwd mi_31) := rfl
set_option maxRecDepth 20000 in
theorem cw_32 : lw_tbl[429]? = some (cwd mi_32) := rfl
set_option maxRecDepth 20000 in
theorem cw_33 : lw_tbl[434]? = some (cwd mi_33) := rfl
set_option maxRecDepth 20000 in
theorem cw_34 : lw_tbl[439]? = some (cwd mi_34) := rfl
set_option maxRecDepth 20000 in
theorem cw_35 : lw_tbl[443]? = some (cwd mi_35) := rfl
set_option maxRecDepth 20000 in
theorem cw_36 : lw_tbl[462]? = some (cwd mi_36) := rfl
set_option maxRecDepth 20000 in
theorem cw_37 : lw_tbl[466]? = some (cwd mi_37) := rfl
set_option maxRecDepth 20000 in
theorem cw_38 : lw_tbl[470]? = some (cwd mi_38) := rfl
set_option maxRecDepth 20000 in
theorem cw_39 : lw_tbl[473]? = some (cwd mi_39) := rfl
set_option maxRecDepth 20000 in
theorem cw_40 : lw_tbl[477]? = some (cwd mi_40) := rfl
set_option maxRecDepth 20000 in
theorem cw_41 : lw_tbl[481]? = some (cwd mi_41) := rfl
set_option maxRecDepth 20000 in
theorem cw_42 : lw_tbl[484]? = some (cwd mi_42) := rfl
set_option maxRecDepth 20000 in
theorem cw_43 : lw_tbl[488]? = some (cwd mi_43) := rfl
set_option maxRecDepth 20000 in
theorem cw_44 : lw_tbl[493]? = some (cwd mi_44) := rfl
set_option maxRecDepth 20000 in
theorem cw_45 : lw_tbl[496]? = some (cwd mi_45) := rfl
set_option maxRecDepth 20000 in
theorem cw_46 : lw_tbl[539]? = some (cwd mi_46) := rfl
set_option maxRecDepth 20000 in
theorem cw_47 : lw_tbl[543]? = some (cwd mi_47) := rfl
set_option maxRecDepth 20000 in
theorem cw_48 : lw_tbl[547]? = some (cwd mi_48) := rfl
set_option maxRecDepth 20000 in
theorem cw_49 : lw_tbl[551]? = some (cwd mi_49) := rfl
set_option maxRecDepth 20000 in
theorem cw_50 : lw_tbl[554]? = some (cwd mi_50) := rfl
set_option maxRecDepth 20000 in
theorem cw_51 : lw_tbl[558]? = some (cwd mi_51) := rfl
set_option maxRecDepth 20000 in
theorem cw_52 : lw_tbl[562]? = some (cwd mi_52) := rfl
set_option maxRecDepth 20000 in
theorem cw_53 : lw_tbl[567]? = some (cwd mi_53) := rfl
set_option maxRecDepth 20000 in
theorem cw_54 : lw_tbl[572]? = some (cwd mi_54) := rfl
set_option maxRecDepth 20000 in
theorem cw_55 : lw_tbl[576]? = some (cwd mi_55) := rfl
set_option maxRecDepth 20000 in
theorem cw_56 : lw_tbl[580]? = some (cwd mi_56) := rfl
set_option maxRecDepth 20000 in
theorem cw_57 : lw_tbl[584]? = some (cwd mi_57) := rfl
set_option maxRecDepth 20000 in
theorem cw_58 : lw_tbl[587]? = some (cwd mi_58) := rfl
set_option maxRecDepth 20000 in
theorem cw_59 : lw_tbl[603]? = some (cwd mi_59) := rfl
set_option maxRecDepth 20000 in
theorem cw_60 : lw_tbl[612]? = some (cwd mi_60) := rfl
set_option maxRecDepth 20000 in
theorem cw_61 : lw_tbl[617]? = some (cwd mi_61) := rfl
set_option maxRecDepth 20000 in
theorem cw_62 : lw_tbl[622]? = some (cwd mi_62) := rfl
set_option maxRecDepth 20000 in
theorem cw_63 : lw_tbl[630]? = some (cwd mi_63) := rfl
set_option maxRecDepth 20000 in
theorem cw_64 : lw_tbl[634]? = some (cwd mi_64) := rfl
set_option maxRecDepth 20000 in
theorem cw_65 : lw_tbl[638]? = some (cwd mi_65) := rfl
set_option maxRecDepth 20000 in
theorem cw_66 : lw_tbl[642]? = some (cwd mi_66) := rfl
set_option maxRecDepth 20000 in
theorem cw_67 : lw_tbl[646]? = some (cwd mi_67) := rfl
set_option maxRecDepth 20000 in
theorem cw_68 : lw_tbl[649]? = some (cwd mi_68) := rfl
set_option maxRecDepth 20000 in
theorem cw_69 : lw_tbl[653]? = some (cwd mi_69) := rfl
set_option maxRecDepth 20000 in
theorem cw_70 : lw_tbl[657]? = some (cwd mi_70) := rfl
set_option maxRecDepth 20000 in
theorem cw_71 : lw_tbl[661]? = some (cwd mi_71) := rfl
set_option maxRecDepth 20000 in
theorem cw_72 : lw_tbl[664]? = some (cwd mi_72) := rfl
set_option maxRecDepth 20000 in
theorem cw_73 : lw_tbl[668]? = some (cwd mi_73) := rfl
set_option maxRecDepth 20000 in
theorem cw_74 : lw_tbl[672]? = some (cwd mi_74) := rfl
set_option maxRecDepth 20000 in
theorem cw_75 : lw_tbl[676]? = some (cwd mi_75) := rfl
set_option maxRecDepth 20000 in
theorem cw_76 : lw_tbl[679]? = some (cwd mi_76) := rfl
set_option maxRecDepth 20000 in
theorem cw_77 : lw_tbl[683]? = some (cwd mi_77) := rfl
set_option maxRecDepth 20000 in
theorem cw_78 : lw_tbl[687]? = some (cwd mi_78) := rfl
set_option maxRecDepth 20000 in
theorem cw_79 : lw_tbl[692]? = some (cwd mi_79) := rfl
set_option maxRecDepth 20000 in
theorem cw_80 : lw_tbl[696]? = some (cwd mi_80) := rfl
set_option maxRecDepth 20000 in
theorem cw_81 : lw_tbl[701]? = some (cwd mi_81) := rfl
set_option maxRecDepth 20000 in
theorem cw_82 : lw_tbl[705]? = some (cwd mi_82) := rfl
set_option maxRecDepth 20000 in
theorem cw_83 : lw_tbl[710]? = some (cwd mi_83) := rfl
set_option maxRecDepth 20000 in
theorem cw_84 : lw_tbl[714]? = some (cwd mi_84) := rfl
set_option maxRecDepth 20000 in
theorem cw_85 : lw_tbl[718]? = some (cwd mi_85) := rfl
set_option maxRecDepth 20000 in
theorem cw_86 : lw_tbl[724]? = some (cwd mi_86) := rfl
set_option maxRecDepth 20000 in
theorem cw_87 : lw_tbl[728]? = some (cwd mi_87) := rfl
set_option maxRecDepth 20000 in
theorem cw_88 : lw_tbl[732]? = some (cwd mi_88) := rfl
set_option maxRecDepth 20000 in
theorem cw_89 : lw_tbl[737]? = some (cwd mi_89) := rfl
set_option maxRecDepth 20000 in
theorem cw_90 : lw_tbl[741]? = some (cwd mi_90) := rfl
set_option maxRecDepth 20000 in
theorem cw_91 : lw_tbl[744]? = some (cwd mi_91) := rfl
set_option maxRecDepth 20000 in
theorem cw_92 : lw_tbl[748]? = some (cwd mi_92) := rfl
set_option maxRecDepth 20000 in
theorem cw_93 : lw_tbl[752]? = some (cwd mi_93) := rfl
set_option maxRecDepth 20000 in
theorem cw_94 : lw_tbl[758]? = some (cwd mi_94) := rfl
set_option maxRecDepth 20000 in
theorem cw_95 : lw_tbl[761]? = some (cwd mi_95) := rfl
set_option maxRecDepth 20000 in
theorem cw_96 : lw_tbl[768]? = some (cwd mi_96) := rfl
set_option maxRecDepth 20000 in
theorem cw_97 : lw_tbl[771]? = some (cwd mi_97) := rfl
set_option maxRecDepth 20000 in
theorem cw_98 : lw_tbl[775]? = some (cwd mi_98) := rfl
set_option maxRecDepth 20000 in
theorem cw_99 : lw_tbl[779]? = some (cwd mi_99) := rfl
set_option maxRecDepth 20000 in
theorem cw_100 : lw_tbl[785]? = some (cwd mi_100) := rfl
set_option maxRecDepth 20000 in
theorem cw_101 : lw_tbl[789]? = some (cwd mi_101) := rfl
set_option maxRecDepth 20000 in
theorem cw_102 : lw_tbl[792]? = some (cwd mi_102) := rfl
set_option maxRecDepth 20000 in
theorem cw_103 : lw_tbl[797]? = some (cwd mi_103) := rfl
set_option maxRecDepth 20000 in
theorem cw_104 : lw_tbl[801]? = some (cwd mi_104) := rfl
set_option maxRecDepth 20000 in
theorem cw_105 : lw_tbl[807]? = some (cwd mi_105) := rfl
set_option maxRecDepth 20000 in
theorem cw_106 : lw_tbl[811]? = some (cwd mi_106) := rfl
set_option maxRecDepth 20000 in
theorem cw_107 : lw_tbl[816]? = some (cwd mi_107) := rfl
set_option maxRecDepth 20000 in
theorem cw_108 : lw_tbl[820]? = some (cwd mi_108) := rfl
set_option maxRecDepth 20000 in
theorem cw_109 : lw_tbl[824]? = some (cwd mi_109) := rfl
set_option maxRecDepth 20000 in
theorem cw_110 : lw_tbl[829]? = some (cwd mi_110) := rfl
set_option maxRecDepth 20000 in
theorem cw_111 : lw_tbl[842]? = some (cwd mi_111) := rfl
set_option maxRecDepth 20000 in
theorem cw_112 : lw_tbl[846]? = some (cwd mi_112) := rfl
set_option maxRecDepth 20000 in
theorem cw_113 : lw_tbl[995]? = some (cwd mi_113) := rfl
set_option maxRecDepth 20000 in
theorem cw_114 : lw_tbl[1000]? = some (cwd mi_114) := rfl
set_option maxRecDepth 20000 in
theorem cw_115 : lw_tbl[1004]? = some (cwd mi_115) := rfl
set_option maxRecDepth 20000 in
theorem cw_116 : lw_tbl[1008]? = some (cwd mi_116) := rfl
set_option maxRecDepth 20000 in
theorem cw_117 : lw_tbl[1012]? = some (cwd mi_117) := rfl
set_option maxRecDepth 20000 in
theorem cw_118 : lw_tbl[1017]? = some (cwd mi_118) := rfl
set_option maxRecDepth 20000 in
theorem cw_119 : lw_tbl[1021]? = some (cwd mi_119) := rfl
set_option maxRecDepth 20000 in
theorem cw_120 : lw_tbl[1025]? = some (cwd mi_120) := rfl
set_option maxRecDepth 20000 in
theorem cw_121 : lw_tbl[1029]? = some (cwd mi_121) := rfl
set_option maxRecDepth 20000 in
theorem cw_122 : lw_tbl[1033]? = some (cwd mi_122) := rfl
set_option maxRecDepth 20000 in
theorem cw_123 : lw_tbl[1037]? = some (cwd mi_123) := rfl
set_option maxRecDepth 20000 in
theorem cw_124 : lw_tbl[1040]? = some (cwd mi_124) := rfl
set_option maxRecDepth 20000 in
theorem cw_125 : lw_tbl[1043]? = some (cwd mi_125) := rfl
set_option maxRecDepth 20000 in
theorem cw_126 : lw_tbl[1047]? = some (cwd mi_126) := rfl
set_option maxRecDepth 20000 in
theorem cw_127 : lw_tbl[1051]? = some (cwd mi_127) := rfl
set_option maxRecDepth 20000 in
theorem cw_128 : lw_tbl[1055]? = some (cwd mi_128) := rfl
set_option maxRecDepth 20000 in
theorem cw_129 : lw_tbl[1059]? = some (cwd mi_129) := rfl
set_option maxRecDepth 20000 in
theorem cw_130 : lw_tbl[1063]? = some (cwd mi_130) := rfl
set_option maxRecDepth 20000 in
theorem cw_131 : lw_tbl[1067]? = some (cwd mi_131) := rfl
set_option maxRecDepth 20000 in
theorem cw_132 : lw_tbl[1071]? = some (cwd mi_132) := rfl
set_option maxRecDepth 20000 in
theorem cw_133 : lw_tbl[1075]? = some (cwd mi_133) := rfl
set_option maxRecDepth 20000 in
theorem cw_134 : lw_tbl[1079]? = some (cwd mi_134) := rfl
set_option maxRecDepth 20000 in
theorem cw_135 : lw_tbl[1084]? = some (cwd mi_135) := rfl
set_option maxRecDepth 20000 in
theorem cw_136 : lw_tbl[1088]? = some (cwd mi_136) := rfl
set_option maxRecDepth 20000 in
theorem cw_137 : lw_tbl[1092]? = some (cwd mi_137) := rfl
set_option maxRecDepth 20000 in
theorem cw_138 : lw_tbl[1096]? = some (cwd mi_138) := rfl
set_option maxRecDepth 20000 in
theorem cw_139 : lw_tbl[1100]? = some (cwd mi_139) := rfl
set_option maxRecDepth 20000 in
theorem cw_140 : lw_tbl[1104]? = some (cwd mi_140) := rfl
set_option maxRecDepth 20000 in
theorem cw_141 : lw_tbl[1108]? = some (cwd mi_141) := rfl
set_option maxRecDepth 20000 in
theorem cw_142 : lw_tbl[1112]? = some (cwd mi_142) := rfl
set_option maxRecDepth 20000 in
theorem cw_143 : lw_tbl[1116]? = some (cwd mi_143) := rfl
set_option maxRecDepth 20000 in
theorem cw_144 : lw_tbl[1120]? = some (cwd mi_144) := rfl
theorem cw_all : ∀ M ∈ mt, cwd M ∈ lw_tbl := by
  unfold mt
  refine List.forall_mem_cons.mpr ⟨List.mem_of_getElem? cw_0, ?_⟩
  refine List.forall_mem_cons.mpr ⟨List.mem_of_getElem? cw_1, ?_⟩
  refine List.forall_mem_cons.mpr ⟨List.mem_of_getElem? cw_2, ?_⟩
  refine List.forall_mem_cons.mpr ⟨List.mem_of_getElem? cw_3, ?_⟩
  refine List.forall_mem_cons.mpr ⟨List.mem_of_getElem? cw_4, ?_⟩
  refine List.forall_mem_cons.mpr ⟨List.mem_of_getElem? cw_5, ?_⟩
  refine List.forall_mem_cons.mpr ⟨List.mem_of_getElem? cw_6, ?_⟩
  refine List.forall_mem_cons.mpr ⟨List.mem_of_getElem? cw_7, ?_⟩
  refine List.forall_mem_cons.mpr ⟨List.mem_of_getElem? cw_8, ?_⟩
  refine List.forall_mem_cons.mpr ⟨List.mem_of_getElem? cw_9, ?_⟩
  refine List.forall_mem_cons.mpr ⟨List.mem_of_getElem? cw_10, ?_⟩
  refine List.forall_mem_cons.mpr ⟨List.mem_of_getElem? cw_11, ?_⟩
  refine List.forall_mem_cons.mpr ⟨List.mem_of_getElem? cw_12, ?_⟩
  refine List.forall_mem_cons.mpr ⟨List.mem_of_getElem? cw_13, ?_⟩
  refine List.forall_mem_cons.mpr ⟨List.mem_of_getElem? cw_14, ?_⟩
  refine List.forall_mem_cons.mpr ⟨List.mem_of_getElem? cw_15, ?_⟩
  refine List.forall_mem_cons.mpr ⟨List.mem_of_getElem? cw_16, ?_⟩
  refine List.forall_mem_cons.mpr ⟨List.mem_of_getElem? cw_17, ?_⟩
  refine List.forall_mem_cons.mpr ⟨List.mem_of_getElem? cw_18, ?_⟩
  refine List.forall_mem_cons.mpr ⟨List.mem_of_getElem? cw_19, ?_⟩
  refine List.forall_mem_cons.mpr ⟨List.mem_of_getElem? cw_20, ?_⟩
  refine List.forall_mem_cons.mpr ⟨List.mem_of_getElem? cw_21, ?_⟩
  refine List.forall_mem_cons.mpr ⟨List.mem_of_getElem? cw_22, ?_⟩
  refine List.forall_mem_cons.mpr ⟨List.mem_of_getElem? cw_23, ?_⟩
  refine List.forall_mem_cons.mpr ⟨List.mem_of_getElem? cw_24, ?_⟩
  refine List.forall_mem_cons.mpr ⟨List.mem_of_getElem? cw_25, ?_⟩
  refine List.forall_mem_cons.mpr ⟨List.mem_of_getElem? cw_26, ?_⟩
  refine List.forall_mem_cons.mpr ⟨List.mem_of_getElem? cw_27, ?_⟩
  refine List.forall_mem_cons.mpr ⟨List.mem_of_getElem? cw_28, ?_⟩
  refine List.forall_mem_cons.mpr ⟨List.mem_of_getElem? cw_29, ?_⟩
  refine List.forall_mem_cons.mpr ⟨List.mem_of_getElem? cw_30, ?_⟩
  refine List.forall_mem_cons.mpr ⟨List.mem_of_getElem? cw_31, ?_⟩
  refine List.forall_mem_cons.mpr ⟨List.mem_of_getElem? cw_32, ?_⟩
  refine List.forall_mem_cons.mpr ⟨List.mem_of_getElem? cw_33, ?_⟩
  refine List.forall_mem_cons.mpr ⟨List.mem_of_getElem? cw_34, ?_⟩
  refine List.forall_mem_cons.mpr ⟨List.mem_of_getElem? cw_35, ?_⟩
  refine List.forall_mem_cons.mpr ⟨List.mem_of_getElem? cw_36, ?_⟩
  refine List.forall_mem_cons.mpr ⟨List.mem_of_getElem? cw_37, ?_⟩
  refine List.forall_mem_cons.mpr ⟨List.mem_of_getElem? cw_38, ?_⟩
  refine List.forall_mem_cons.mpr ⟨List.mem_of_getElem? cw_39, ?_⟩
  refine List.forall_mem_cons.mpr ⟨List.mem_of_getElem? cw_40, ?_⟩
  refine List.forall_mem_cons.mpr ⟨List.mem_of_getElem? cw_41, ?_⟩
  refine List.forall_mem_cons.mpr ⟨List.mem_of_getElem? cw_42, ?_⟩
  refine List.forall_mem_cons.mpr ⟨List.mem_of_getElem? cw_43, ?_⟩
  refine List.forall_mem_cons.mpr ⟨List.mem_of_getElem? cw_44, ?_⟩
  refine List.forall_mem_cons.mpr ⟨List.mem_of_getElem? cw_45, ?_⟩
  refine List.forall_mem_cons.mpr ⟨List.mem_of_getElem? cw_46, ?_⟩
  refine List.forall_mem_cons.mpr ⟨List.mem_of_getElem? cw_47, ?_⟩
  refine List.forall_mem_cons.mpr ⟨List.mem_of_getElem? cw_48, ?_⟩
  refine List.forall_mem_cons.mpr ⟨List.mem_of_getElem? cw_49, ?_⟩
  refine List.forall_mem_cons.mpr ⟨List.mem_of_getElem? cw_50, ?_⟩
  refine List.forall_mem_cons.mpr ⟨List.mem_of_getElem? cw_51, ?_⟩
  refine List.forall_mem_cons.mpr ⟨List.mem_of_getElem? cw_52, ?_⟩
  refine List.forall_mem_cons.mpr ⟨List.mem_of_getElem? cw_53, ?_⟩
  refine List.forall_mem_cons.mpr ⟨List.mem_of_getElem? cw_54, ?_⟩
  refine List.forall_mem_cons.mpr ⟨List.mem_of_getElem? cw_55, ?_⟩
  refine List.forall_mem_cons.mpr ⟨List.mem_of_getElem? cw_56, ?_⟩
  refine List.forall_mem_cons.mpr ⟨List.mem_of_getElem? cw_57, ?_⟩
  refine List.forall_mem_cons.mpr ⟨List.mem_of_getElem? cw_58, ?_⟩
  refine List.forall_mem_cons.mpr ⟨List.mem_of_getElem? cw_59, ?_⟩
  refine List.forall_mem_cons.mpr ⟨List.mem_of_getElem? cw_60, ?_⟩
  refine List.forall_mem_cons.mpr ⟨List.mem_of_getElem? cw_61, ?_⟩
  refine List.forall_mem_cons.mpr ⟨List.mem_of_getElem? cw_62, ?_⟩
  refine List.forall_mem_cons.mpr ⟨List.mem_of_getElem? cw_63, ?_⟩
  refine List.forall_mem_cons.mpr ⟨List.mem_of_getElem? cw_64, ?_⟩
  refine List.forall_mem_cons.mpr ⟨List.mem_of_getElem? cw_65, ?_⟩
  refine List.forall_mem_cons.mpr ⟨List.mem_of_getElem? cw_66, ?_⟩
  refine List.forall_mem_cons.mpr ⟨List.mem_of_getElem? cw_67, ?_⟩
  refine List.forall_mem_cons.mpr ⟨List.mem_of_getElem? cw_68, ?_⟩
  refine List.forall_mem_cons.mpr ⟨List.mem_of_getElem? cw_69, ?_⟩
  refine List.forall_mem_cons.mpr ⟨List.mem_of_getElem? cw_70, ?_⟩
  refine List.forall_mem_cons.mpr ⟨List.mem_of_getElem? cw_71, ?_⟩
  refine List.forall_mem_cons.mpr ⟨List.mem_of_getElem? cw_72, ?_⟩
  refine List.forall_mem_cons.mpr ⟨List.mem_of_getElem? cw_73, ?_⟩
  refine List.forall_mem_cons.mpr ⟨List.mem_of_getElem? cw_74, ?_⟩
  refine List.forall_mem_cons.mpr ⟨List.mem_of_getElem? cw_75, ?_⟩
  refine List.forall_mem_cons.mpr ⟨List.mem_of_getElem? cw_76, ?_⟩
  refine List.forall_mem_cons.mpr ⟨List.mem_of_getElem? cw_77, ?_⟩
  refine List.forall_mem_cons.mpr ⟨List.mem_of_getElem? cw_78, ?_⟩
  refine List.forall_mem_cons.mpr ⟨List.mem_of_getElem? cw_79, ?_⟩
  refine List.forall_mem_cons.mpr ⟨List.mem_of_getElem? cw_80, ?_⟩
  refine List.forall_mem_cons.mpr ⟨List.mem_of_getElem? cw_81, ?_⟩
  refine List.forall_mem_cons.mpr ⟨List.mem_of_getElem? cw_82, ?_⟩
  refine List.forall_mem_cons.mpr ⟨List.mem_of_getElem? cw_83, ?_⟩
  refine List.forall_mem_cons.mpr ⟨List.mem_of_getElem? cw_84, ?_⟩
  refine List.forall_mem_cons.mpr ⟨List.mem_of_getElem? cw_85, ?_⟩
  refine List.forall_mem_cons.mpr ⟨List.mem_of_getElem? cw_86, ?_⟩
  refine List.forall_mem_cons.mpr ⟨List.mem_of_getElem? cw_87, ?_⟩
  refine List.forall_mem_cons.mpr ⟨List.mem_of_getElem? cw_88, ?_⟩
  refine List.forall_mem_cons.mpr ⟨List.mem_of_getElem? cw_89, ?_⟩
  refine List.forall_mem_cons.mpr ⟨List.mem_of_getElem? cw_90, ?_⟩
  refine List.forall_mem_cons.mpr ⟨List.mem_of_getElem? cw_91, ?_⟩
  refine List.forall_mem_cons.mpr ⟨List.mem_of_getElem? cw_92, ?_⟩
  refine List.forall_mem_cons.mpr ⟨List.mem_of_getElem? cw_93, ?_⟩
  refine List.forall_mem_cons.mpr ⟨List.mem_of_getElem? cw_94, ?_⟩
  refine List.forall_mem_cons.mpr ⟨List.mem_of_getElem? cw_95, ?_⟩
  refine List.forall_mem_cons.mpr ⟨List.mem_of_getElem? cw_96, ?_⟩
  refine List.forall_mem_cons.mpr ⟨List.mem_of_getElem? cw_97, ?_⟩
  refine List.forall_mem_cons.mpr ⟨List.mem_of_getElem? cw_98, ?_⟩
  refine List.forall_mem_cons.mpr ⟨List.mem_of_getElem? cw_99, ?_⟩
  refine List.forall_mem_cons.mpr ⟨List.mem_of_getElem? cw_100, ?_⟩
  refine List.forall_mem_cons.mpr ⟨List.mem_of_getElem? cw_101, ?_⟩
  refine List.forall_mem_cons.mpr ⟨List.mem_of_getElem? cw_102, ?_⟩
  refine List.forall_mem_cons.mpr ⟨List.mem_of_getElem? cw_103, ?_⟩
  refine List.forall_mem_cons.mpr ⟨List.mem_of_getElem? cw_104, ?_⟩
  refine List.forall_mem_cons.mpr ⟨List.mem_of_getElem? cw_105, ?_⟩
  refine List.forall_mem_cons.mpr ⟨List.mem_of_getElem? cw_106, ?_⟩
  refine List.forall_mem_cons.mpr ⟨List.mem_of_getElem? cw_107, ?_⟩
  refine List.forall_mem_cons.mpr ⟨List.mem_of_getElem? cw_108, ?_⟩
  refine List.forall_mem_cons.mpr ⟨List.mem_of_getElem? cw_109, ?_⟩
  refine List.forall_mem_cons.mpr ⟨List.mem_of_getElem? cw_110, ?_⟩
  refine List.forall_mem_cons.mpr ⟨List.mem_of_getElem? cw_111, ?_⟩
  refine List.forall_mem_cons.mpr ⟨List.mem_of_getElem? cw_112, ?_⟩
  refine List.forall_mem_cons.mpr ⟨List.mem_of_getElem? cw_113, ?_⟩
  refine List.forall_mem_cons.mpr ⟨List.mem_of_getElem? cw_114, ?_⟩
  refine List.forall_mem_cons.mpr ⟨List.mem_of_getElem? cw_115, ?_⟩
  refine List.forall_mem_cons.mpr ⟨List.mem_of_getElem? cw_116, ?_⟩
  refine List.forall_mem_cons.mpr ⟨List.mem_of_getElem? cw_117, ?_⟩
  refine List.forall_mem_cons.mpr ⟨List.mem_of_getElem? cw_118, ?_⟩
  refine List.forall_mem_cons.mpr ⟨List.mem_of_getElem? cw_119, ?_⟩
  refine List.forall_mem_cons.mpr ⟨List.mem_of_getElem? cw_120, ?_⟩
  refine List.forall_mem_cons.mpr ⟨List.mem_of_getElem? cw_121, ?_⟩
  refine List.forall_mem_cons.mpr ⟨List.mem_of_getElem? cw_122, ?_⟩
  refine List.forall_mem_cons.mpr ⟨List.mem_of_getElem? cw_123, ?_⟩
  refine List.forall_mem_cons.mpr ⟨List.mem_of_getElem? cw_124, ?_⟩
  refine List.forall_mem_cons.mpr ⟨List.mem_of_getElem? cw_125, ?_⟩
  refine List.forall_mem_cons.mpr ⟨List.mem_of_getElem? cw_126, ?_⟩
  refine List.forall_mem_cons.mpr ⟨List.mem_of_getElem? cw_127, ?_⟩
  refine List.forall_mem_cons.mpr ⟨List.mem_of_getElem? cw_128, ?_⟩
  refine List.forall_mem_cons.mpr ⟨List.mem_of_getElem? cw_129, ?_⟩
  refine List.forall_mem_cons.mpr ⟨List.mem_of_getElem? cw_130, ?_⟩
  refine List.forall_mem_cons.mpr ⟨List.mem_of_getElem? cw_131, ?_⟩
  refine List.forall_mem_cons.mpr ⟨List.mem_of_getElem? cw_132, ?_⟩
  refine List.forall_mem_cons.mpr ⟨List.mem_of_getElem? cw_133, ?_⟩
  refine List.forall_mem_cons.mpr ⟨List.mem_of_getElem? cw_134, ?_⟩
  refine List.forall_mem_cons.mpr ⟨List.mem_of_getElem? cw_135, ?_⟩
  refine List.forall_mem_cons.mpr ⟨List.mem_of_getElem? cw_136, ?_⟩
  refine List.forall_mem_cons.mpr ⟨List.mem_of_getElem? cw_137, ?_⟩
  refine List.forall_mem_cons.mpr ⟨List.mem_of_getElem? cw_138, ?_⟩
  refine List.forall_mem_cons.mpr ⟨List.mem_of_getElem? cw_139, ?_⟩
  refine List.forall_mem_cons.mpr ⟨List.mem_of_getElem? cw_140, ?_⟩
  refine List.forall_mem_cons.mpr ⟨List.mem_of_getElem? cw_141, ?_⟩
  refine List.forall_mem_cons.mpr ⟨List.mem_of_getElem? cw_142, ?_⟩
  refine List.forall_mem_cons.mpr ⟨List.mem_of_getElem? cw_143, ?_⟩
  refine List.forall_mem_cons.mpr ⟨List.mem_of_getElem? cw_144, ?_⟩
  exact fun _ h => absurd h List.not_mem_nil
theorem mL_all : ∀ M ∈ mt, mL M ≤ 9 := by decide +kernel
def yok (y : MethodName) (na : Nat) : Bool := decide (y.cls ≠ "java/lang/invoke/MethodHandle") && decide (y.cls ≠ "java/lang/invoke/VarHandle") && decide ((parseMethodDescriptor y.desc).map (fun d => d.parameters.length) = some na) && plainName y.cls
def wis (i : Nat) (w : Cond) : Bool := decide (lw_tbl[i]? = some w)
def cokS (own : String) (idx : Nat) (nest : Bool) (hx : Bool) (na k w1 w2 w3 : Nat) : Bool := (mt[k]?).any fun M => yok (mY M) na && (bif nest then wis w1 (.methodLinkNest own idx (mY M) "TapeVault") else wis w1 (.methodLink own idx (mY M))) && wis w2 (.static (mY M)) && wis w3 (.initialized (mY M).cls) && (mH M).isEmpty == !hx
def cokI (own : String) (idx : Nat) (nest : Bool) (na k w1 w2 w3 : Nat) : Bool := (mt[k]?).any fun M => yok (mY M) na && (bif nest then wis w1 (.methodLinkNest own idx (mY M) "TapeVault") else wis w1 (.methodLink own idx (mY M))) && wis w2 (.instanceMethod (mY M)) && wis w3 (.initialized (mY M).cls) && (mH M).isEmpty && decide ((mY M).name = "<init>") && decide (mR M = none)
def cokV (own : String) (idx na k ci w1 w2 w3 w4 : Nat) : Bool := (mt[k]?).any fun M => yok (mY M) na && wis w1 (.methodLink own idx (mY M)) && wis w2 (.instanceMethod (mY M)) && wis w3 (.selects (mY M).cls (mY M) (mY M)) && wis w4 (.initialized (mY M).cls) && (mH M).isEmpty && (vcl[ci]?).any fun q => decide (q.1 = (mY M).cls)
/-- one side of an abstract method's call -/
def cokA (own : String) (idx na k ci w1 w2 w3 s1 s2 s3 : Nat) : Bool := (mt[k]?).any fun M => yok (mY M) na && wis w1 (.methodLink own idx ⟨"TapeVault$View", (mY M).name, (mY M).desc⟩) && wis w2 (.sameMethod "TapeVault$View" "TapeVault$View" (mY M).name (mY M).desc) && wis w3 (.declares ⟨"TapeVault$View", (mY M).name, (mY M).desc⟩) && wis s1 (.selects (mY M).cls ⟨"TapeVault$View", (mY M).name, (mY M).desc⟩ (mY M)) && wis s2 (.instanceMethod (mY M)) && wis s3 (.initialized (mY M).cls) && (mH M).isEmpty && (vcl[ci]?).any fun q => decide (q.1 = (mY M).cls)
def thl : List (Nat × Nat) := [(53, 0), (69, 1), (76, 2), (109, 3)]
def xnames : List String := ["java/lang/RuntimeException", "java/lang/Exception"]
theorem thl_ok : thl.all (fun q => match exn[q.2]? with
  | some cls => (vx_at0 "TapeVault" q.1 cls xnames).all (fun w => decide (w ∈ lw_tbl) && wk w && vx_ot w) && Bundle.fit cls && decide (Cond.initialized cls ∈ lw_tbl)
  | none => false) = true := by decide +kernel
def cok (own : String) (cc : ByteArray) (e : EN) : Bool := match e.2.1, e.2.2.2 with
  | .invokestatic idx, [0, na, k, w1, w2, w3, _] => cokS own idx false false na k w1 w2 w3
  | .invokestatic idx, [1, na, k, w1, w2, w3, _] => cokS own idx true false na k w1 w2 w3
  | .invokestatic idx, [8, na, k, w1, w2, w3, _] => cokS own idx false true na k w1 w2 w3
  | .invokestatic idx, [7, w1] => wis w1 (.methodLink own idx arraycopyName)
  | .invokestatic idx, [11, w1, w2, w3, w4] => wis w1 (.methodLink own idx Lib.Math.max.name) && wis w2 (.static Lib.Math.max.name) && wis w3 (.initialized "java/lang/Math") && wis w4 (.code Lib.Math.max.name Lib.Math.max.code 2 (some .int))
  | .invokestatic idx, [12, w1, w2, w3, w4] => wis w1 (.methodLink own idx Lib.Math.min.name) && wis w2 (.static Lib.Math.min.name) && wis w3 (.initialized "java/lang/Math") && wis w4 (.code Lib.Math.min.name Lib.Math.min.code 2 (some .int))
  | .invokespecial idx, [4, na, k, w1, w2, w3, _] => cokI own idx false na k w1 w2 w3
  | .invokespecial idx, [5, na, k, w1, w2, w3, _] => cokI own idx true na k w1 w2 w3
  | .invokespecial idx, [10, w1, w2, w3] => wis w1 (.methodLink own idx objectInit) && wis w2 (.instanceMethod objectInit) && wis w3 (.code objectInit ⟨#[0xb1]⟩ 1 none)
  | .invokevirtual idx, [2, na, k, ci, w1, w2, w3, w4, _] => cokV own idx na k ci w1 w2 w3 w4
  | .invokevirtual idx, [9, na, k, ci, w1, w2, w3, w4, _] => cokV own idx na k ci w1 w2 w3 w4
  | .invokevirtual idx, [6, na, k, k2, w1, w2, w3, s1, s2, s3, _, t1, t2, t3, _] => cokA own idx na k 1 w1 w2 w3 s1 s2 s3 && cokA own idx na k2 4 w1 w2 w3 t1 t2 t3
  | .new ik, [50, E, ic, w] => decide (decode cc (e.1 + 3) = .ok (.dup, 1)) && decide (decode cc (e.1 + 4) = .ok (.invokespecial ic, 3)) && decide (decode cc (e.1 + 7) = .ok (.athrow, 1)) && decide ((ic, E) ∈ thl) && decide (own = "TapeVault") && (exn[E]?).any fun cls => wis w (.classLink own ik cls)
  | .invokestatic _, _ => false
  | .invokespecial _, _ => false
  | .invokevirtual _, _ => false
  | _, _ => true
/-- an entry is right: as a step, or as a throw -/
def eokx (M : MI) (e : EN) : Bool := match e.2.1, e.2.2.2 with
  | .new ik, 50 :: _ => decide (decode (mB M) e.1 = .ok (.new ik, 3)) && cok (mY M).cls (mB M) e
  | .multianewarray .., _ => true
  | _, _ => eok (mY M).cls (mB M) (decide ((mY M).name = "<init>")) e && cok (mY M).cls (mB M) e
def mokb (M : MI) : Bool := (mE M).all (eokx M)
end
section
/-! every method is what its bytes say, part 1 -/
theorem mok_0 : mokb mi_0 = true := by decide +kernel
theorem mok_1 : mokb mi_1 = true := by decide +kernel
theorem mok_2 : mokb mi_2 = true := by decide +kernel
theorem mok_3 : mokb mi_3 = true := by decide +kernel
theorem mok_4 : mokb mi_4 = true := by decide +kernel
theorem mok_5 : mokb mi_5 = true := by decide +kernel
theorem mok_6 : mokb mi_6 = true := by decide +kernel
theorem mok_7 : mokb mi_7 = true := by decide +kernel
theorem mok_8 : mokb mi_8 = true := by decide +kernel
theorem mok_9 : mokb mi_9 = true := by decide +kernel
theorem mok_10 : mokb mi_10 = true := by decide +kernel
theorem mok_11 : mokb mi_11 = true := by decide +kernel
theorem mok_12 : mokb mi_12 = true := by decide +kernel
theorem mok_13 : mokb mi_13 = true := by decide +kernel
theorem mok_14 : mokb mi_14 = true := by decide +kernel
theorem mok_15 : mokb mi_15 = true := by decide +kernel
theorem mok_16 : mokb mi_16 = true := by decide +kernel
theorem mok_17 : mokb mi_17 = true := by decide +kernel
theorem mok_18 : mokb mi_18 = true := by decide +kernel
theorem mok_19 : mokb mi_19 = true := by decide +kernel
theorem mok_20 : mokb mi_20 = true := by decide +kernel
theorem mok_21 : mokb mi_21 = true := by decide +kernel
theorem mok_22 : mokb mi_22 = true := by decide +kernel
theorem mok_23 : mokb mi_23 = true := by decide +kernel
theorem mok_24 : mokb mi_24 = true := by decide +kernel
end
section
/-! every method is what its bytes say, part 2 -/
theorem mok_25 : mokb mi_25 = true := by decide +kernel
theorem mok_26 : mokb mi_26 = true := by decide +kernel
theorem mok_27 : mokb mi_27 = true := by decide +kernel
theorem mok_28 : mokb mi_28 = true := by decide +kernel
theorem mok_29 : mokb mi_29 = true := by decide +kernel
theorem mok_30 : mokb mi_30 = true := by decide +kernel
theorem mok_31 : mokb mi_31 = true := by decide +kernel
theorem mok_32 : mokb mi_32 = true := by decide +kernel
theorem mok_33 : mokb mi_33 = true := by decide +kernel
theorem mok_34 : mokb mi_34 = true := by decide +kernel
theorem mok_35 : mokb mi_35 = true := by decide +kernel
theorem mok_36 : mokb mi_36 = true := by decide +kernel
theorem mok_37 : mokb mi_37 = true := by decide +kernel
theorem mok_38 : mokb mi_38 = true := by decide +kernel
theorem mok_39 : mokb mi_39 = true := by decide +kernel
theorem mok_40 : mokb mi_40 = true := by decide +kernel
theorem mok_41 : mokb mi_41 = true := by decide +kernel
theorem mok_42 : mokb mi_42 = true := by decide +kernel
theorem mok_43 : mokb mi_43 = true := by decide +kernel
theorem mok_44 : mokb mi_44 = true := by decide +kernel
theorem mok_45 : mokb mi_45 = true := by decide +kernel
theorem mok_46 : mokb mi_46 = true := by decide +kernel
theorem mok_47 : mokb mi_47 = true := by decide +kernel
theorem mok_48 : mokb mi_48 = true := by decide +kernel
theorem mok_49 : mokb mi_49 = true := by decide +kernel
end
section
/-! every method is what its bytes say, part 3 -/
theorem mok_50 : mokb mi_50 = true := by decide +kernel
theorem mok_51 : mokb mi_51 = true := by decide +kernel
theorem mok_52 : mokb mi_52 = true := by decide +kernel
theorem mok_53 : mokb mi_53 = true := by decide +kernel
theorem mok_54 : mokb mi_54 = true := by decide +kernel
theorem mok_55 : mokb mi_55 = true := by decide +kernel
theorem mok_56 : mokb mi_56 = true := by decide +kernel
theorem mok_57 : mokb mi_57 = true := by decide +kernel
theorem mok_58 : mokb mi_58 = true := by decide +kernel
theorem mok_59 : mokb mi_59 = true := by decide +kernel
theorem mok_60 : mokb mi_60 = true := by decide +kernel
theorem mok_61 : mokb mi_61 = true := by decide +kernel
theorem mok_62 : mokb mi_62 = true := by decide +kernel
theorem mok_63 : mokb mi_63 = true := by decide +kernel
theorem mok_64 : mokb mi_64 = true := by decide +kernel
theorem mok_65 : mokb mi_65 = true := by decide +kernel
theorem mok_66 : mokb mi_66 = true := by decide +kernel
theorem mok_67 : mokb mi_67 = true := by decide +kernel
theorem mok_68 : mokb mi_68 = true := by decide +kernel
theorem mok_69 : mokb mi_69 = true := by decide +kernel
theorem mok_70 : mokb mi_70 = true := by decide +kernel
theorem mok_71 : mokb mi_71 = true := by decide +kernel
theorem mok_72 : mokb mi_72 = true := by decide +kernel
theorem mok_73 : mokb mi_73 = true := by decide +kernel
theorem mok_74 : mokb mi_74 = true := by decide +kernel
end
section
/-! every method is what its bytes say, part 4 -/
theorem mok_75 : mokb mi_75 = true := by decide +kernel
theorem mok_76 : mokb mi_76 = true := by decide +kernel
theorem mok_77 : mokb mi_77 = true := by decide +kernel
theorem mok_78 : mokb mi_78 = true := by decide +kernel
theorem mok_79 : mokb mi_79 = true := by decide +kernel
theorem mok_80 : mokb mi_80 = true := by decide +kernel
theorem mok_81 : mokb mi_81 = true := by decide +kernel
theorem mok_82 : mokb mi_82 = true := by decide +kernel
theorem mok_83 : mokb mi_83 = true := by decide +kernel
theorem mok_84 : mokb mi_84 = true := by decide +kernel
theorem mok_85 : mokb mi_85 = true := by decide +kernel
theorem mok_86 : mokb mi_86 = true := by decide +kernel
theorem mok_87 : mokb mi_87 = true := by decide +kernel
theorem mok_88 : mokb mi_88 = true := by decide +kernel
theorem mok_89 : mokb mi_89 = true := by decide +kernel
theorem mok_90 : mokb mi_90 = true := by decide +kernel
theorem mok_91 : mokb mi_91 = true := by decide +kernel
theorem mok_92 : mokb mi_92 = true := by decide +kernel
theorem mok_93 : mokb mi_93 = true := by decide +kernel
theorem mok_94 : mokb mi_94 = true := by decide +kernel
theorem mok_95 : mokb mi_95 = true := by decide +kernel
theorem mok_96 : mokb mi_96 = true := by decide +kernel
theorem mok_97 : mokb mi_97 = true := by decide +kernel
theorem mok_98 : mokb mi_98 = true := by decide +kernel
theorem mok_99 : mokb mi_99 = true := by decide +kernel
end
section
/-! every method is what its bytes say, part 5 -/
theorem mok_100 : mokb mi_100 = true := by decide +kernel
theorem mok_101 : mokb mi_101 = true := by decide +kernel
theorem mok_102 : mokb mi_102 = true := by decide +kernel
theorem mok_103 : mokb mi_103 = true := by decide +kernel
theorem mok_104 : mokb mi_104 = true := by decide +kernel
theorem mok_105 : mokb mi_105 = true := by decide +kernel
theorem mok_106 : mokb mi_106 = true := by decide +kernel
theorem mok_107 : mokb mi_107 = true := by decide +kernel
theorem mok_108 : mokb mi_108 = true := by decide +kernel
theorem mok_109 : mokb mi_109 = true := by decide +kernel
theorem mok_110 : mokb mi_110 = true := by decide +kernel
theorem mok_111 : mokb mi_111 = true := by decide +kernel
theorem mok_112 : mokb mi_112 = true := by decide +kernel
theorem mok_113 : mokb mi_113 = true := by decide +kernel
theorem mok_114 : mokb mi_114 = true := by decide +kernel
theorem mok_115 : mokb mi_115 = true := by decide +kernel
theorem mok_116 : mokb mi_116 = true := by decide +kernel
theorem mok_117 : mokb mi_117 = true := by decide +kernel
theorem mok_118 : mokb mi_118 = true := by decide +kernel
theorem mok_119 : mokb mi_119 = true := by decide +kernel
theorem mok_120 : mokb mi_120 = true := by decide +kernel
theorem mok_121 : mokb mi_121 = true := by decide +kernel
theorem mok_122 : mokb mi_122 = true := by decide +kernel
theorem mok_123 : mokb mi_123 = true := by decide +kernel
theorem mok_124 : mokb mi_124 = true := by decide +kernel
end
section
/-! every method is what its bytes say, part 6 -/
theorem mok_125 : mokb mi_125 = true := by decide +kernel
theorem mok_126 : mokb mi_126 = true := by decide +kernel
theorem mok_127 : mokb mi_127 = true := by decide +kernel
theorem mok_128 : mokb mi_128 = true := by decide +kernel
theorem mok_129 : mokb mi_129 = true := by decide +kernel
theorem mok_130 : mokb mi_130 = true := by decide +kernel
theorem mok_131 : mokb mi_131 = true := by decide +kernel
theorem mok_132 : mokb mi_132 = true := by decide +kernel
theorem mok_133 : mokb mi_133 = true := by decide +kernel
theorem mok_134 : mokb mi_134 = true := by decide +kernel
theorem mok_135 : mokb mi_135 = true := by decide +kernel
theorem mok_136 : mokb mi_136 = true := by decide +kernel
theorem mok_137 : mokb mi_137 = true := by decide +kernel
theorem mok_138 : mokb mi_138 = true := by decide +kernel
theorem mok_139 : mokb mi_139 = true := by decide +kernel
theorem mok_140 : mokb mi_140 = true := by decide +kernel
theorem mok_141 : mokb mi_141 = true := by decide +kernel
theorem mok_142 : mokb mi_142 = true := by decide +kernel
theorem mok_143 : mokb mi_143 = true := by decide +kernel
theorem mok_144 : mokb mi_144 = true := by decide +kernel
end
section
theorem mok_all : ∀ M ∈ mt, mokb M = true := by
  intro M hM
  simp only [mt, List.mem_cons, List.not_mem_nil, or_false] at hM
  rcases hM with rfl | rfl | rfl | rfl | rfl | rfl | rfl | rfl | rfl | rfl | rfl | rfl | rfl | rfl | rfl | rfl | rfl | rfl | rfl | rfl | rfl | rfl | rfl | rfl | rfl | rfl | rfl | rfl | rfl | rfl | rfl | rfl | rfl | rfl | rfl | rfl | rfl | rfl | rfl | rfl | rfl | rfl | rfl | rfl | rfl | rfl | rfl | rfl | rfl | rfl | rfl | rfl | rfl | rfl | rfl | rfl | rfl | rfl | rfl | rfl | rfl | rfl | rfl | rfl | rfl | rfl | rfl | rfl | rfl | rfl | rfl | rfl | rfl | rfl | rfl | rfl | rfl | rfl | rfl | rfl | rfl | rfl | rfl | rfl | rfl | rfl | rfl | rfl | rfl | rfl | rfl | rfl | rfl | rfl | rfl | rfl | rfl | rfl | rfl | rfl | rfl | rfl | rfl | rfl | rfl | rfl | rfl | rfl | rfl | rfl | rfl | rfl | rfl | rfl | rfl | rfl | rfl | rfl | rfl | rfl | rfl | rfl | rfl | rfl | rfl | rfl | rfl | rfl | rfl | rfl | rfl | rfl | rfl | rfl | rfl | rfl | rfl | rfl | rfl | rfl | rfl | rfl | rfl | rfl | rfl
  · exact mok_0
  · exact mok_1
  · exact mok_2
  · exact mok_3
  · exact mok_4
  · exact mok_5
  · exact mok_6
  · exact mok_7
  · exact mok_8
  · exact mok_9
  · exact mok_10
  · exact mok_11
  · exact mok_12
  · exact mok_13
  · exact mok_14
  · exact mok_15
  · exact mok_16
  · exact mok_17
  · exact mok_18
  · exact mok_19
  · exact mok_20
  · exact mok_21
  · exact mok_22
  · exact mok_23
  · exact mok_24
  · exact mok_25
  · exact mok_26
  · exact mok_27
  · exact mok_28
  · exact mok_29
  · exact mok_30
  · exact mok_31
  · exact mok_32
  · exact mok_33
  · exact mok_34
  · exact mok_35
  · exact mok_36
  · exact mok_37
  · exact mok_38
  · exact mok_39
  · exact mok_40
  · exact mok_41
  · exact mok_42
  · exact mok_43
  · exact mok_44
  · exact mok_45
  · exact mok_46
  · exact mok_47
  · exact mok_48
  · exact mok_49
  · exact mok_50
  · exact mok_51
  · exact mok_52
  · exact mok_53
  · exact mok_54
  · exact mok_55
  · exact mok_56
  · exact mok_57
  · exact mok_58
  · exact mok_59
  · exact mok_60
  · exact mok_61
  · exact mok_62
  · exact mok_63
  · exact mok_64
  · exact mok_65
  · exact mok_66
  · exact mok_67
  · exact mok_68
  · exact mok_69
  · exact mok_70
  · exact mok_71
  · exact mok_72
  · exact mok_73
  · exact mok_74
  · exact mok_75
  · exact mok_76
  · exact mok_77
  · exact mok_78
  · exact mok_79
  · exact mok_80
  · exact mok_81
  · exact mok_82
  · exact mok_83
  · exact mok_84
  · exact mok_85
  · exact mok_86
  · exact mok_87
  · exact mok_88
  · exact mok_89
  · exact mok_90
  · exact mok_91
  · exact mok_92
  · exact mok_93
  · exact mok_94
  · exact mok_95
  · exact mok_96
  · exact mok_97
  · exact mok_98
  · exact mok_99
  · exact mok_100
  · exact mok_101
  · exact mok_102
  · exact mok_103
  · exact mok_104
  · exact mok_105
  · exact mok_106
  · exact mok_107
  · exact mok_108
  · exact mok_109
  · exact mok_110
  · exact mok_111
  · exact mok_112
  · exact mok_113
  · exact mok_114
  · exact mok_115
  · exact mok_116
  · exact mok_117
  · exact mok_118
  · exact mok_119
  · exact mok_120
  · exact mok_121
  · exact mok_122
  · exact mok_123
  · exact mok_124
  · exact mok_125
  · exact mok_126
  · exact mok_127
  · exact mok_128
  · exact mok_129
  · exact mok_130
  · exact mok_131
  · exact mok_132
  · exact mok_133
  · exact mok_134
  · exact mok_135
  · exact mok_136
  · exact mok_137
  · exact mok_138
  · exact mok_139
  · exact mok_140
  · exact mok_141
  · exact mok_142
  · exact mok_143
  · exact mok_144
end
section
/-! the law is what its bytes say, part 0 -/
theorem mokl_0 : (((mE mi_145).drop 0).take 70).all (eokx mi_145) = true := by decide +kernel
theorem mokl_1 : (((mE mi_145).drop 70).take 70).all (eokx mi_145) = true := by decide +kernel
end
section
/-! the law is what its bytes say, part 1 -/
theorem mokl_2 : (((mE mi_145).drop 140).take 70).all (eokx mi_145) = true := by decide +kernel
theorem mokl_3 : (((mE mi_145).drop 210).take 70).all (eokx mi_145) = true := by decide +kernel
end
section
/-! the law is what its bytes say, part 2 -/
theorem mokl_4 : (((mE mi_145).drop 280).take 70).all (eokx mi_145) = true := by decide +kernel
theorem mokl_5 : (((mE mi_145).drop 350).take 70).all (eokx mi_145) = true := by decide +kernel
end
section
/-! the law is what its bytes say, part 3 -/
theorem mokl_6 : (((mE mi_145).drop 420).take 70).all (eokx mi_145) = true := by decide +kernel
theorem mokl_7 : (((mE mi_145).drop 490).take 70).all (eokx mi_145) = true := by decide +kernel
end
section
/-! the law is what its bytes say, part 4 -/
theorem mokl_8 : (((mE mi_145).drop 560).take 70).all (eokx mi_145) = true := by decide +kernel
theorem mokl_9 : (((mE mi_145).drop 630).take 70).all (eokx mi_145) = true := by decide +kernel
end
section
/-! the law is what its bytes say -/
theorem all_split {α : Type} (l : List α) (f : α → Bool) (a n : Nat) (h1 : ((l.drop a).take n).all f = true) (h2 : (l.drop (a + n)).all f = true) : (l.drop a).all f = true := by
  rw [← List.take_append_drop n (l.drop a), List.all_append, h1, List.drop_drop, h2]
  rfl
theorem mok_145 : mokb mi_145 = true := by
  have e : (mE mi_145).all (eokx mi_145) = ((mE mi_145).drop 0).all (eokx mi_145) := rfl
  show (mE mi_145).all (eokx mi_145) = true
  rw [e]
  refine all_split _ _ 0 70 mokl_0 ?_
  refine all_split _ _ 70 70 mokl_1 ?_
  refine all_split _ _ 140 70 mokl_2 ?_
  refine all_split _ _ 210 70 mokl_3 ?_
  refine all_split _ _ 280 70 mokl_4 ?_
  refine all_split _ _ 350 70 mokl_5 ?_
  refine all_split _ _ 420 70 mokl_6 ?_
  refine all_split _ _ 490 70 mokl_7 ?_
  refine all_split _ _ 560 70 mokl_8 ?_
  refine all_split _ _ 630 70 mokl_9 ?_
  decide +kernel
end
section
/-! entries, returns, calls: what the run's soundness stands on -/
theorem fet_inv {E : List EN} {pc : Nat} {z : Instr × Nat × List Nat} (h : fet E pc = some z) : (pc, z) ∈ E := by
  induction E with
  | nil => cases h
  | cons e t ih =>
    unfold fet at h
    cases hb : Nat.beq e.1 pc with
    | true =>
      rw [hb] at h
      have h1 : e.2 = z := Option.some.inj h
      have h2 : e.1 = pc := Nat.eq_of_beq_eq_true hb
      rw [← h1, ← h2]
      exact List.mem_cons_self
    | false =>
      rw [hb] at h
      exact List.mem_cons_of_mem _ (ih h)
theorem popN_inv : ∀ {n : Nat} {st : List Value} {z : List Value × List Value}, popN n st = some z → z.1.length = n ∧ st = z.1.reverse ++ z.2
  | 0, st, z, h => by cases h; exact ⟨rfl, rfl⟩
  | n + 1, [], z, h => by cases h
  | n + 1, v :: r, z, h => by
    unfold popN at h
    dsimp only at h
    cases hq : popN n r with
    | none => rw [hq] at h; cases h
    | some q =>
      rw [hq] at h
      cases h
      obtain ⟨h1, h2⟩ := popN_inv hq
      refine ⟨by rw [List.length_append, h1]; rfl, ?_⟩
      rw [List.reverse_append, h2]
      rfl
theorem ent1_cat (v : Value) : ent1 v = if v.category = 2 then [some v, none] else [some v] := by cases v <;> rfl
theorem ent_len (vs : List Value) : (vs.flatMap ent1).length = (lg_sl vs).length := by
  induction vs with
  | nil => rfl
  | cons v t ih =>
    have e : lg_sl (v :: t) = (if v.category = 2 then [Slot.val v, Slot.second] else [Slot.val v]) ++ lg_sl t := rfl
    rw [List.flatMap_cons, List.length_append, ih, e, List.length_append, ent1_cat]
    split <;> rfl
theorem ent_args (n : Nat) : ∀ (vs : List Value) (k i : Nat) (v : Value), (vs.flatMap ent1 ++ List.replicate n none)[i]? = some (some v) → (k + i, v) ∈ lv_args k vs
  | [], k, i, v, h => by
    simp only [List.flatMap_nil, List.nil_append, List.getElem?_replicate] at h
    split at h <;> cases h
  | w :: t, k, i, v, h => by
    rw [List.flatMap_cons, List.append_assoc, ent1_cat] at h
    unfold lv_args
    split at h
    · rename_i hc
      rw [if_pos hc]
      match i, h with
      | 0, h => cases h; exact List.mem_cons_self
      | 1, h => cases h
      | i + 2, h =>
        have h2 : (t.flatMap ent1 ++ List.replicate n none)[i]? = some (some v) := h
        have := ent_args n t (k + 2) i v h2
        rw [show k + (i + 2) = k + 2 + i by omega]
        exact List.mem_cons_of_mem _ this
    · rename_i hc
      rw [if_neg hc]
      match i, h with
      | 0, h => cases h; exact List.mem_cons_self
      | i + 1, h =>
        have h2 : (t.flatMap ent1 ++ List.replicate n none)[i]? = some (some v) := h
        have := ent_args n t (k + 1) i v h2
        rw [show k + (i + 1) = k + 1 + i by omega]
        exact List.mem_cons_of_mem _ this
theorem LV.entry {nL : Nat} {vs : List Value} (h : (vs.flatMap ent1).length ≤ nL) : LV ((lg_sl vs ++ List.replicate (nL - (lg_sl vs).length) Slot.unset).toArray) nL (ent nL vs) := by
  refine ⟨by unfold ent; rw [List.length_append, List.length_replicate]; omega, lv_less (lv_entry vs (by rw [← ent_len]; exact h)) fun q hq => ?_⟩
  obtain ⟨i, v⟩ := q
  have := ent_args _ vs 0 i v (mem_la.mp hq)
  rwa [Nat.zero_add] at this
theorem LV.forget {ls : Array Slot} {nL : Nat} {lv : List (Option Value)} (h : LV ls nL lv) (i : Nat) : LV ls nL (lv.set i none) := by
  refine ⟨by rw [List.length_set]; exact h.1, lv_less h.2 fun q hq => ?_⟩
  obtain ⟨j, v⟩ := q
  have hq := mem_la.mp hq
  rw [List.getElem?_set] at hq
  by_cases e : i = j
  · rw [if_pos e] at hq
    split at hq <;> cases hq
  · rw [if_neg e] at hq
    exact mem_la.mpr hq
/-- a place that another value of one slot took: what is known of the rest is the same -/
theorem lv1_forget {lv : List (Option Value)} {i : Nat} {v w : Value} : (lv1 lv i v).set i none = (lv1 lv i w).set i none := by
  unfold lv1
  rw [List.set_set, List.set_set]
section SndE
variable {D : va_G} {dA : FieldType → ClassId} {base b L : Nat} {xs : Nat → Int32} {n0 s0 nL : Nat} {own : String} {cc : ByteArray}
variable {p : Program} {l : Launch} {e : Env} {R : Room} {s : State} {m : MethodId} {args : Array Value} {below : List Frame} {meth : Method} {c : Code} {Q : State → Prop}
variable {H : Heap} {locs : List Loc} {cells slots pc : Nat} {ls : Array Slot} {rest : List Value} {h : AH}
theorem ret_ok {Qc : Array Value → State → Outcome → State → Prop} {free : Addr → Prop} {rt : Option FieldType} {ins : Instr} {st : List Value} {v : Option Value} (hx : p.tables.exec = Jvm.exec) (hb : c.code = cc) (hr : meth.sig.returnType = rt) (hlocks : meth.locks = false) (hv : retV rt ins st = some v) (hdg : decode cc pc = .ok (ins, 1))
    (hq : ∀ t : State, t.heap = H → s.WarmedH t.vm → Qc args s (.returned v) t) (hf : ∀ q ∈ locs, free q.base) : W p l e R s m args below meth c H locs cells slots (MQ below Qc args s cells slots free) (F0 m pc ls st) := by
  unfold retV at hv
  split at hv
  · cases hv; exact W.iret hx hb hr hq hf hdg hlocks
  · split at hv
    · rename_i hz
      cases hv
      exact W.zret hx hb hr (by rcases hz with rfl | rfl <;> rfl) hq hf hdg hlocks
    · cases hv
  · cases hv; exact W.lret hx hb hr hq hf hdg hlocks
  · cases hv; exact W.aret hx hb hr (Or.inl ⟨_, rfl⟩) (Or.inr ⟨_, rfl⟩) hq hf hdg hlocks
  · cases hv; exact W.aret hx hb hr (Or.inl ⟨_, rfl⟩) (Or.inl rfl) hq hf hdg hlocks
  · cases hv; exact W.aret hx hb hr (Or.inr ⟨_, rfl⟩) (Or.inr ⟨_, rfl⟩) hq hf hdg hlocks
  · cases hv; exact W.vret hx hb hr hq hf hdg hlocks
  · cases hv
/-- what a callee is begun with, and what it ends with -/
def PreU (D : va_G) (dA : FieldType → ClassId) (base b L : Nat) (xs : Nat → Int32) (h : AH) (U : State) : Prop := Wd D dA U ∧ Hw base b L xs U U.heap ∧ Rp D dA base h U.heap
def QU (D : va_G) (dA : FieldType → ClassId) (base : Nat) (h1 : AH) (v : Option Value) : Array Value → State → Outcome → State → Prop := fun _ st oc t => oc = .returned v ∧ Rp D dA base h1 t.heap ∧ va_F (fun q => base ≤ q) st t
theorem blindU (as : List Value) : FrameBlind (va_Pc as (PreU D dA base b L xs h)) := fun a U g mk q => by
  obtain ⟨q0, q1, q2, q3⟩ := q
  exact ⟨q0, Wd.warm (s := U) (U := U.calling g mk a) (State.WarmedH.refl U) q1, Hw.moved (u := U) (U := U.calling g mk a) (Vm.Alike.refl U.vm) q2, q3⟩
theorem preU (hW : Wd D dA s) (hH : Hw base b L xs s s.heap) (hR : Rp D dA base h H) (hS : va_S (fun q => base ≤ q) s.heap H locs) (as : List Value) : ∀ U : State, U.heap = H → s.WarmedH U.vm → va_Pc as (PreU D dA base b L xs h) as.toArray U := by
  intro U hU hWm
  subst hU
  exact ⟨rfl, hW.warm hWm, (hH.kept hS.2.1 hS.1).moved hWm.alike, hR⟩
theorem after_call {mc ms : Nat} {as : Array Value} {st rest : List Value} {h1 : AH} {v : Option Value} {lv : List (Option Value)} (hr : va_Run p l e R s m args below meth c H locs cells slots mc ms (F0 m pc ls st) rest (QU D dA base h1 v as) (fun q => base ≤ q)) (hS : va_S (fun q => base ≤ q) s.heap H locs) (hL : LV ls nL lv) (hc : cells + n0 = h.1) (hl : slots + s0 = h.2.1) (e1 : h.1 + mc = h1.1) (e2 : h.2.1 + ms = h1.2.1)
    (k : KK D dA base n0 s0 nL p l e R s m args below meth c Q (pc + 3) lv (v.toList ++ rest) h1) : W p l e R s m args below meth c H locs cells slots Q (F0 m pc ls st) := by
  intro T hT X
  obtain ⟨v', st₀, t, T', L', h0, X', hL', g1, g2, ⟨gv, gR, gF⟩, go⟩ := hr T hT X
  cases gv
  obtain ⟨k1, k2, k3⟩ := vx_keep (A0 := fun q => base ≤ q) (A1 := fun q => base ≤ q) (free := fun q => base ≤ q) h0 g1 hS (fun _ _ z => z) (fun _ z => z) hL' gF
  obtain ⟨t2, a1, b1⟩ := k T'.heap (locs ++ L') (cells + mc) (slots + ms) ls (by rw [g1]; exact gR) k3 hL (by omega) (by omega) T' rfl X'
  exact ⟨t2, go t2 a1, b1⟩
/-- the words of a callee at every later state -/
theorem ws_later (hW : Wd D dA s) {w : Cond} (hw : w ∈ lw_tbl) (hk : wk w = true) : ∀ w' ∈ [w], ∀ (a' : Array Value) (U : State), s.WarmedH U.vm → w'.before a' U = true := by
  intro w' hw' a' U hWm
  cases List.mem_singleton.mp hw'
  exact (hW.warm hWm).word hw hk
theorem recvU (hW : Wd D dA s) {a ci : Nat} {q : vw_C} {fs : List Value} (ho : oat D dA a (.inr (ci, fs)) H) (hq : vcl[ci]? = some q) : ∃ cell : Cell, H[a]? = some cell ∧ cell.vm.isStatics = false ∧ s.vm.findClass q.1 = some cell.cls := by
  obtain ⟨q', h1, -, cell, g1, g2, g3, -⟩ := ho
  cases hq.symm.trans h1
  exact ⟨cell, g1, by rw [g3]; rfl, by rw [g2]; exact (hW.2.1.1 ci q hq).2.1⟩
end SndE
end
section
/-! a throw that the caller's table catches; a throw that leaves its method -/
section Cy
variable {e : Env} {f : JFrame} {a : Addr}
theorem cy_link {Q : Handler → Pre} {E : CtlPost} {d : Bool} {acts : List Action} {s : State} {x : ExceptionTableEntry} {t : List ExceptionTableEntry} {c : ClassId} {cell : Cell} (hx : covers x f.pc = true) (h0 : x.catchType ≠ 0)
    (hl : s.vm.ClassLinks e.platform f.method.cls x.catchType c) (hcell : s.heap[a]? = some cell) (hobj : ∀ k, cell.vm ≠ .statics k)
    (hk : ∃ k, s.vm.classes[cell.cls]? = some k) (hc : ∃ k, s.vm.classes[c]? = some k) :
    wp (findHandler.go f a (x :: t)) Q E e d acts s ↔ (if s.vm.assignable cell.cls c = true then Q (.found x.handlerPc) d acts (s.setVm (s.vm.noted f.method.cls x.catchType (.cls c))) else wp (findHandler.go f a t) Q E e d acts (s.setVm (s.vm.noted f.method.cls x.catchType (.cls c)))) := by
  simp only [covers] at hx
  obtain ⟨ha, ht⟩ := (resolveClass_links e.toSetting hl).op (op := VmOp.resolveClass f.method.cls x.catchType) rfl
  have hal : s.vm.Alike (s.vm.noted f.method.cls x.catchType (.cls c)) := (Vm.Alike.refl s.vm).noted _ _ _
  obtain ⟨k1, hk1⟩ := hk
  obtain ⟨k2, hk2⟩ := hc
  obtain ⟨k1', hk1', -⟩ := hal.2.2 _ _ hk1
  obtain ⟨k2', hk2', -⟩ := hal.2.2 _ _ hk2
  have hfit' : (s.vm.noted f.method.cls x.catchType (.cls c)).assignable cell.cls c = s.vm.assignable cell.cls c := by rw [hal.assignable]
  cases hz : s.vm.assignable cell.cls c <;> rw [hz] at hfit' <;> simp [findHandler.go, hx, h0, ha, ht, hcell, hobj, hk1', hk2', hfit', VmOp.dirties, VmOp.acts]
theorem cy_step {s : State} {r : List Frame} {pc : Nat} {vm' : Vm} (hfind : ∀ (Q : Handler → Pre) (E : CtlPost) (d : Bool) (acts : List Action), wp (findHandler f a) Q E e d acts s ↔ Q (.found pc) d acts (s.setVm vm')) :
    (stepThrowing e s a (.java f :: r)).Is ((s.setVm vm').setFrames (.java { f with pc := pc, stack := [.ref a] } :: r)) [] := by
  simp only [stepThrowing, searchFrame, vmDo]
  generalize hr : Sem.go _ e false [] s = res
  obtain ⟨as, rfl, ha⟩ := Sem.eq_ok_of hr (a := Handler.found pc) (s' := s.setVm vm') (acts' := []) (by simp [hfind _ _ _ _])
  exact ⟨rfl, ha⟩
theorem cy_frames (u : State) (vm' : Vm) (F G : List Frame) : ((u.setFrames F).setVm vm').setFrames G = (u.setVm vm').setFrames G := by
  have h1 : (u.setFrames F).setVm vm' = (u.setVm vm').setFrames F := rfl
  rw [h1, State.setFrames_setFrames]
theorem cy_caught {tb : Tables} {s target : State} {g : JFrame} {c : Code} {below : List Frame} (h : At s g.method c below) {pc : Nat} {vm' : Vm}
    (hfind : ∀ (Q : Handler → Pre) (E : CtlPost) (d : Bool) (acts : List Action), wp (findHandler g a) Q E e d acts ((s.setTop g).pushFrame (.throwing a)) ↔ Q (.found pc) d acts (((s.setTop g).pushFrame (.throwing a)).setVm vm'))
    (hrest : Steps tb e below ((s.setVm vm').setTop { g with pc := pc, stack := [.ref a] }) target) : Steps tb e below ((s.setTop g).pushFrame (.throwing a)) target := by
  obtain ⟨hgo, hw⟩ := h.throwing a
  refine Steps.head hgo hw ?_
  rw [stepThread_throwing (frames_entered h.top _), (cy_step (s := (s.setTop g).pushFrame (.throwing a)) hfind).1]
  obtain ⟨g₀, hg⟩ := Option.isSome_iff_exists.mp h.top
  obtain ⟨r, hr⟩ := State.topJava?_eq_some.mp hg
  have hr' : (s.setVm vm').frames = .java g₀ :: r := hr
  rw [State.setTop_of_frames _ hr'] at hrest
  rw [hr, List.tail_cons, State.pushFrame, cy_frames, State.setTop_of_frames _ hr, cy_frames]
  exact hrest
/-- the words of the handlers -/
theorem hcl_ok : ∀ q ∈ hcl, q.1 ≠ 0 ∧ (exn[q.2]?).any (fun n => decide (Cond.classLink "TapeVaultLaw" q.1 n ∈ lw_tbl)) = true := by decide +kernel
theorem exn_cast : ∀ n ∈ exn, Cond.castable n n ∈ lw_tbl := by decide +kernel
theorem exn_nd : ∀ i < 4, ∀ j < 4, i ≠ j → exn[i]? ≠ exn[j]? := by decide +kernel
theorem lookup_mem {l : List (Nat × Nat)} {a b : Nat} (h : l.lookup a = some b) : (a, b) ∈ l := by
  induction l with
  | nil => cases h
  | cons q t ih =>
    obtain ⟨x, y⟩ := q
    rw [List.lookup_cons] at h
    split at h
    · rename_i hz
      cases h
      rw [beq_iff_eq] at hz
      rw [hz]
      exact List.mem_cons_self
    · exact List.mem_cons_of_mem _ (ih h)
theorem cy_go {D : va_G} {dA : FieldType → ClassId} {s₀ : State} (hW0 : Wd D dA s₀) (hown : s₀.vm.findClass "TapeVaultLaw" = some f.method.cls) (hpl : e.platform.magicAccessors = ({} : Platform).magicAccessors) {cell : Cell} (hobj : ∀ k, cell.vm ≠ .statics k) {E hp : Nat} {cls : String} (hE : exn[E]? = some cls) (hcl : s₀.vm.findClass cls = some cell.cls) :
    ∀ (hh : List (Nat × Nat × Nat × Nat)) (S : State), s₀.WarmedH S.vm → S.heap[a]? = some cell → fh hh f.pc E = some hp →
      ∃ vm', s₀.WarmedH vm' ∧ ∀ (Q : Handler → Pre) (E' : CtlPost) (d : Bool) (acts : List Action), wp (findHandler.go f a (tableOf hh)) Q E' e d acts S ↔ Q (.found hp) d acts (S.setVm vm') := by
  obtain ⟨k0, hk0, -⟩ := Vm.findClass_spec hcl
  intro hh
  induction hh with
  | nil => intro S _ _ h; cases h
  | cons q t ih =>
    intro S hW hcell hf
    unfold fh at hf
    obtain ⟨k0', hk0', -⟩ := hW.alike.2.2 _ _ hk0
    split at hf
    · rename_i hcov
      have hx : covers (⟨q.1, q.2.1, q.2.2.1, q.2.2.2⟩ : ExceptionTableEntry) f.pc = true := by simp [covers, hcov.1, hcov.2]
      split at hf
      · rename_i F hF
        obtain ⟨h0, hw⟩ := hcl_ok _ (lookup_mem hF)
        cases hn : exn[F]? with
        | none => rw [hn] at hw; cases hw
        | some nm =>
          rw [hn] at hw
          simp only [Option.any_some, decide_eq_true_eq] at hw
          obtain ⟨c5, hc5, hl⟩ := Cond.classLink_spec hown (hW0.word hw rfl (A := #[])) e.platform hpl
          obtain ⟨dk, _, _, kt, hd, _, _, _, _, hkt, _, hopen⟩ := hl.here
          obtain ⟨kt', hkt', -⟩ := hW.alike.2.2 _ _ hkt
          have hW1 := hW.noted hd hopen (State.rightAt_cls hl)
          have key := fun Q E' d acts => cy_link (e := e) (f := f) (a := a) (Q := Q) (E := E') (d := d) (acts := acts) (s := S) (x := ⟨q.1, q.2.1, q.2.2.1, q.2.2.2⟩) (t := tableOf t) (c := c5) (cell := cell) hx h0 (hW.classLinks hl) hcell hobj ⟨k0', hk0'⟩ ⟨kt', hkt'⟩
          split at hf
          · rename_i hFE
            subst hFE
            cases hf
            cases hn.symm.trans hE
            obtain ⟨c3, c4, hc3, hc4, hasg⟩ := Cond.castable_spec (hW0.word (exn_cast cls (List.mem_of_getElem? hE)) rfl (A := #[]))
            cases Option.some.inj (hc3.symm.trans hcl)
            cases Option.some.inj (hc4.symm.trans hc5)
            refine ⟨_, hW1, fun Q E' d acts => ?_⟩
            refine (key Q E' d acts).trans ?_
            rw [hW.alike.assignable, hasg]
            simp
          · rename_i hFE
            have hne : cls ≠ nm := fun z => by
              have hF4 : F < 4 := (List.getElem?_eq_some_iff.mp hn).1
              have hE4 : E < 4 := (List.getElem?_eq_some_iff.mp hE).1
              exact exn_nd F hF4 E hE4 hFE (by rw [hn, hE, z])
            obtain ⟨a8, b8, g1, g2, g3⟩ := hW0.2.2.2.1 cls (List.mem_of_getElem? hE) nm (List.mem_of_getElem? hn) hne
            cases Option.some.inj (g1.symm.trans hcl)
            cases Option.some.inj (g2.symm.trans hc5)
            obtain ⟨vm', hW', hq⟩ := ih (S.setVm (S.vm.noted f.method.cls q.2.2.2 (.cls c5))) hW1 hcell hf
            refine ⟨vm', hW', fun Q E' d acts => ?_⟩
            refine (key Q E' d acts).trans ?_
            rw [hW.alike.assignable, g3]
            exact hq Q E' d acts
      · cases hf
    · rename_i hcov
      obtain ⟨vm', hW', hq⟩ := ih S hW hcell hf
      refine ⟨vm', hW', fun Q E' d acts => ?_⟩
      show wp (findHandler.go f a (⟨q.1, q.2.1, q.2.2.1, q.2.2.2⟩ :: tableOf t)) Q E' e d acts S ↔ _
      rw [W.findHandler_go_skip (by simp only [covers, Bool.and_eq_false_iff, decide_eq_false_iff_not]; by_cases z : q.1 ≤ f.pc; exact Or.inr (fun y => hcov ⟨z, y⟩); exact Or.inl z)]
      exact hq Q E' d acts
end Cy
section CyW
variable {D : va_G} {dA : FieldType → ClassId} {base b L : Nat} {xs : Nat → Int32} {n0 s0 nL : Nat} {own : String} {cc : ByteArray}
variable {p : Program} {l : Launch} {e : Env} {R : Room} {s : State} {m : MethodId} {args : Array Value} {below : List Frame} {meth : Method} {c : Code} {Q : State → Prop}
variable {H : Heap} {locs : List Loc} {cells slots pc : Nat} {ls : Array Slot} {rest : List Value} {h : AH}
/-- caught by the method's own table -/
theorem cy_catch (hW0 : Wd D dA s) (hown : s.vm.findClass "TapeVaultLaw" = some m.cls) {hh : List (Nat × Nat × Nat × Nat)} (htab : c.exceptionTable.toList = tableOf hh) {E hp : Nat} {cls : String} {ce : Cell} {q : Addr} (hE : exn[E]? = some cls) (hcell : H[q]? = some ce) (hv : ce.vm = .none) (hcl : s.vm.findClass cls = some ce.cls) (hf : fh hh pc E = some hp)
    (kk : W p l e R s m args below meth c H locs cells slots Q (F0 m hp ls [.ref q])) : vx_W p l e R s m args below meth c H locs cells slots Q (F0 m pc ls rest) q := by
  intro T hT X
  have hpl : e.platform.magicAccessors = ({} : Platform).magicAccessors := by rw [X.admits.platform]
  obtain ⟨vm', hW', hq⟩ := cy_go (e := e) (f := F0 m pc ls rest) (a := q) hW0 hown hpl (cell := ce) (fun k z => by rw [hv] at z; cases z) hE hcl hh ((T.setTop (F0 m pc ls rest)).pushFrame (.throwing q)) X.warmed (show T.heap[q]? = some ce by rw [hT]; exact hcell) hf
  obtain ⟨t, a1, b1⟩ := kk (T.setVm vm') hT (X.noted hW')
  refine ⟨t, ?_, b1⟩
  refine cy_caught (g := F0 m pc ls rest) X.here (vm' := vm') (pc := hp) (fun Q E' d acts => ?_) a1
  rw [W.findHandler_eq (meth := meth) (code := c) X.method' X.code, htab]
  exact hq Q E' d acts
end CyW
section VyT
variable {p : Program} {l : Launch} {e : Env} {R : Room} {s : State} {m : MethodId} {args : Array Value} {below : List Frame} {meth : Method} {c : Code} {H : Heap} {locs : List Loc} {cells slots : Nat} {Q : State → Prop}
variable {mc ms : Nat} {free : Addr → Prop} {A0 A1 : Nat → Prop} {H0 : Heap} {a : Array Value} {ls : Array Slot} {st0 rest : List Value}
variable {Qc : Array Value → State → Outcome → State → Prop} {XC : String → State → State → Prop}
/-- 'throw new E()', with the heap's size behind it -/
theorem vy_throw0 {cc : ByteArray} {pc : Nat} (hexec : p.tables.exec = Jvm.exec) (hb : c.code = cc) (hl : l.stackTraces = false) {own cls : String} {names : List String} {ik ic mc ms : Nat} {A : Nat → Prop}
    (hown : s.vm.findClass own = some m.cls) (hcls : Bundle.fit cls = true) (hnames : ∀ n ∈ names, Bundle.fit n = true)
    (hk : (Cond.classLink own ik cls).before args s = true) (hini : (Cond.initialized cls).before args s = true) (hat : ∀ w ∈ vx_at0 own ic cls names, w.before args s = true)
    (hgood : ∀ w ∈ Cond.classLink own ik cls :: Cond.initialized cls :: vx_at0 own ic cls names, vx_ot w = true)
    (hU : vx_Zq Bundle.tN "UNASSIGNED_STACK" Bundle.steD A s s.heap) (hN : vx_Zq Bundle.tN "SUPPRESSED_SENTINEL" Bundle.listD A s s.heap) (hS : va_S A s.heap H locs) (hsize : ls.size = c.maxLocals)
    (d0 : decode cc pc = .ok (.new ik, 3)) (d3 : decode cc (pc + 3) = .ok (.dup, 1)) (d4 : decode cc (pc + 4) = .ok (.invokespecial ic, 3)) (d7 : decode cc (pc + 7) = .ok (.athrow, 1))
    (hout : ∀ x ∈ c.exceptionTable.toList, covers x (pc + 7) = false)
    (hRframes : names.length + 3 < R.frames) (hRlocals : (rest.map fun v => v.category).sum + (13 * (names.length + 1) + 42) ≤ R.locals) (hRcells : cells + 1 ≤ R.cells) (hRslots : slots + 6 ≤ R.slots) (hlocks : meth.locks = false)
    (hx : ∀ t : State, s.vm.Alike t.vm → t.heap.size = H.size + 1 → (∀ q : Nat, q < H.size → t.heap[q]? = H[q]?) → XC cls s t)
    (hf : ∀ z ∈ locs, free z.base) (hc : cells + 1 ≤ mc) (hs : slots + 6 ≤ ms) :
    W p l e R s m args below meth c H locs cells slots (vx_MQ below Qc XC args s mc ms free) (F0 m pc ls rest) := by
  intro T hT X
  have htr : e.platform.stackTraces = false := (show e.platform.stackTraces = l.stackTraces by rw [X.admits.platform]).trans hl
  have Y := vx_rebase X (R' := { frames := R.frames, locals := R.locals, cells := 1, slots := 6 }) (Nat.le_refl _) (Nat.le_refl _) hRcells hRslots
  obtain ⟨s', hA⟩ : ∃ z, z = (T.setVm s.vm).setFrames (.invoking m args :: below) := ⟨_, rfl⟩
  rw [← hA] at Y
  have hvm : s'.vm = s.vm := by rw [hA]; rfl
  have hhp : s'.heap = H := by rw [hA]; exact hT
  have hW0 : s.WarmedH s'.vm := by rw [hvm]; exact State.WarmedH.refl s
  have hat' : ∀ w ∈ vx_at0 own ic cls names, w.before args s' = true := fun w hw => vx_ot_at hW0 hvm.symm (hgood w (List.mem_cons_of_mem _ (List.mem_cons_of_mem _ hw))) (hat w hw)
  have hk' : (Cond.classLink own ik cls).before args s' = true := vx_ot_at hW0 hvm.symm (hgood _ List.mem_cons_self) hk
  have hini' : (Cond.initialized cls).before args s' = true := vx_ot_at hW0 hvm.symm (hgood _ (List.mem_cons_of_mem _ List.mem_cons_self)) hini
  have hU' : vx_Zq Bundle.tN "UNASSIGNED_STACK" Bundle.steD A s' s'.heap := by rw [hhp]; exact vx_Zq.moved hW0.alike (hU.kept hS.2.1)
  have hN' : vx_Zq Bundle.tN "SUPPRESSED_SENTINEL" Bundle.listD A s' s'.heap := by rw [hhp]; exact vx_Zq.moved hW0.alike (hN.kept hS.2.1)
  have h : ∀ w ∈ Bundle.ownAtoms0 own ic cls names, w.before args s' = true := vx_own hat' (vx_isRefq hU'.1) (vx_isRefq hN'.1) hU'.2.word hN'.2.word
  have hown' : s'.vm.findClass own = some m.cls := by rw [hvm]; exact hown
  have hins : (Cond.instantiable cls 6).before args s' = true := h _ (by simp [Bundle.ownAtoms0])
  obtain ⟨vm₁, cX, kX, hfX, hkX, -, -, X₁, st1⟩ := Y.newCold hexec (own := own) (C := cls) (index := ik) (n := 6) hown' hk' hins hini'
    (g := F0 m pc ls rest) rfl (by rw [hb]; exact d0) (Nat.le_refl _) (Nat.le_refl _)
  generalize hT1 : (T.setVm vm₁).pushCell { cls := cX, slots := kX.instanceTypes.map defaultValue, vm := .none } = T1 at X₁ st1
  have hcat : (Value.ref T.heap.size).category = 1 := rfl
  have hcellA : T1.heap[T.heap.size]? = some (freshCell cX kX) := by rw [← hT1]; exact State.heap_pushCell_size _ _
  have d3' : decode c.code (pc + 3) = .ok (.dup, 1) := by rw [hb]; exact d3
  obtain ⟨U, hsteps, hrun, hend, hW, hsame, ce, hce, hO⟩ := X₁.ctorThrow0 hexec htr (own := own) (cls := cls) (names := names) (ic := ic) hown' hcls hnames h (fun x hx => nomatch hx) hfX hkX hcellA (by rw [hhp, hT]; exact Nat.le_refl _)
    (g := { method := m, pc := pc + 4, locals := ls, stack := .ref T.heap.size :: .ref T.heap.size :: rest, locked := none }) rfl hsize rfl rfl (rest := rest) rfl
    (by rw [hb]; exact d4) (by rw [hb]; exact d7) hout hRframes (by simp only [List.map_cons, List.sum_cons, hcat]; omega) hlocks
  obtain ⟨f1, f2⟩ := vx_frame hsame
  have f3 : U.heap.size = H.size + 1 := by
    have u1 : U.heap.size ≤ s'.heap.size + (0 + 1) := hsame.2.2.1
    have u2 : T.heap.size < U.heap.size := (Array.getElem?_eq_some_iff.mp hce).1
    rw [hhp] at u1
    rw [hT] at u2
    omega
  rw [hhp] at f1 f2
  have hWs : s.WarmedH U.vm := State.WarmedH.trans hW0 hW
  have hcl : s.vm.findClass cls = some ce.cls := by
    have h9 := hO.cls
    rw [hvm] at h9
    exact h9
  have hall : s.sameButNew ({ U with vm := s.vm } : State) locs mc ms := by
    subst hA
    obtain ⟨e1, e2⟩ := hsame
    rw [State.setFrames_setFrames] at e1
    have h2 : (T.setVm s.vm).sameButNew ({ U with vm := s.vm } : State) [] (0 + 1) (0 + 6) := ⟨e1, e2⟩
    have h3 := X.same.trans h2
    rw [List.append_nil] at h3
    exact h3.mono hc hs
  refine ⟨U, ?_, .threw T.heap.size, hrun, hend, Or.inr ⟨T.heap.size, rfl, cls, ce, locs, hx U hWs.alike f3 (fun q hq => f2 q hq (fun z hz => nomatch hz)), hce, hO.vm, hcl, hWs, hall, hf⟩⟩
  refine st1 _ ?_
  show Steps p.tables e below (T1.setTop { method := m, pc := pc + 3, locals := ls, stack := .ref T.heap.size :: rest, locked := none }) _
  jvm_step X₁.here [X₁.here.top, hexec, d3', Value.category]
  exact hsteps
end VyT
end
section
/-! an array of arrays: the outer array, then its rows one by one -/
/-- the outer array with its first i rows laid -/
def mo (c : ClassId) (N z i : Nat) : Cell := arrV c N (fun j => if j < i then .ref (z + 1 + j) else .null)
theorem mo_succ (c : ClassId) (N z i : Nat) : (mo c N z i).setSlot i (.ref (z + 1 + i)) = mo c N z (i + 1) := by
  unfold mo
  rw [arrV_store]
  congr 1
  funext j
  unfold updV
  by_cases e : j = i
  · subst e; simp
  · rw [if_neg e]
    dsimp only
    by_cases h : j < i
    · rw [if_pos h, if_pos (by omega)]
    · rw [if_neg h, if_neg (by omega)]
def mrow (c : ClassId) (M : Nat) (v : Value) : Cell := arrV c M (fun _ => v)
/-- the state behind i rows -/
def mfl (T : State) (c comp : ClassId) (N M : Nat) (v : Value) : Nat → State
  | 0 => T.pushCell (mo c N T.heap.size 0)
  | i + 1 => ((mfl T c comp N M v i).pushCell (mrow comp M v)).setCell T.heap.size (mo c N T.heap.size (i + 1))
theorem mfl_facts (T : State) (c comp : ClassId) (N M : Nat) (v : Value) : ∀ i, (mfl T c comp N M v i).heap.size = T.heap.size + 1 + i ∧ (mfl T c comp N M v i).heap[T.heap.size]? = some (mo c N T.heap.size i) ∧ (mfl T c comp N M v i).vm = T.vm ∧ (mfl T c comp N M v i).slotsUsed = T.slotsUsed + N + i * M
  | 0 => ⟨by simp [mfl], by simp [mfl], rfl, by simp [mfl, mo, arrV_size]⟩
  | i + 1 => by
    obtain ⟨a, b, d, u⟩ := mfl_facts T c comp N M v i
    have hlt : T.heap.size < (mfl T c comp N M v i).heap.size := by omega
    have hb' : ((mfl T c comp N M v i).pushCell (mrow comp M v)).heap[T.heap.size]? = some (mo c N T.heap.size i) := by rw [State.heap_pushCell_of_lt (h := hlt)]; exact b
    refine ⟨?_, State.heap_setCell_self hb', by simp [mfl, d], ?_⟩
    · simp [mfl, State.setCell, a]; omega
    · simp [mfl, u, mrow, arrV_size, Nat.succ_mul]; omega
theorem mfl_top (T : State) (f : JFrame) (c comp : ClassId) (N M : Nat) (v : Value) : ∀ i, mfl (T.setTop f) c comp N M v i = (mfl T c comp N M v i).setTop f
  | 0 => rfl
  | i + 1 => by simp only [mfl, mfl_top T f c comp N M v i, State.heap_setTop, State.pushCell_setTop, State.setCell_setTop]
theorem mfl_old (T : State) (c comp : ClassId) (N M : Nat) (v : Value) {a : Addr} (ha : a < T.heap.size) : ∀ i, (mfl T c comp N M v i).heap[a]? = T.heap[a]?
  | 0 => State.heap_pushCell_of_lt _ _ ha
  | i + 1 => by
    have f1 := (mfl_facts T c comp N M v i).1
    have hlt : a < (mfl T c comp N M v i).heap.size := Nat.lt_of_lt_of_le ha (by rw [f1]; omega)
    show (((mfl T c comp N M v i).pushCell (mrow comp M v)).setCell T.heap.size _).heap[a]? = _
    rw [State.heap_setCell_other (Nat.ne_of_gt ha), State.heap_pushCell_of_lt (h := hlt)]
    exact mfl_old T c comp N M v ha i
theorem mfl_row (T : State) (c comp : ClassId) (N M : Nat) (v : Value) : ∀ i j, j < i → (mfl T c comp N M v i).heap[T.heap.size + 1 + j]? = some (mrow comp M v)
  | 0, _, h => absurd h (Nat.not_lt_zero _)
  | i + 1, j, h => by
    have f1 := (mfl_facts T c comp N M v i).1
    show (((mfl T c comp N M v i).pushCell (mrow comp M v)).setCell T.heap.size _).heap[T.heap.size + 1 + j]? = _
    rw [State.heap_setCell_other (show T.heap.size ≠ T.heap.size + 1 + j by omega)]
    rcases Nat.lt_or_ge j i with hj | hj
    · have hlt : T.heap.size + 1 + j < (mfl T c comp N M v i).heap.size := by rw [f1]; omega
      rw [State.heap_pushCell_of_lt (h := hlt)]
      exact mfl_row T c comp N M v i j hj
    · have e : j = i := by omega
      subst e
      rw [← f1]
      exact State.heap_pushCell_size _ _
section MuW
variable {E : CtlPost} {e : Env} {d : Bool} {acts : List Action} {s : State}
theorem mw_new {c comp : ClassId} {k : Class} {ty : FieldType} {n : Nat} {v : Value} (hk : s.vm.classes[c]? = some k) (hkind : k.kind = .array comp ty)
    (hlimit : ¬ n > e.platform.arrayLengthLimit) (hheap : ¬ n * componentBytes ty > e.platform.maxHeapBytes) (hfit : fits ty v = true) (hdef : v.isDefault = true) {Q : Addr → Pre}
    (h1 : s.heap.size < e.platform.maxCells) (h2 : s.slotsUsed + n ≤ e.platform.maxSlots) (hq : Q s.heap.size d acts (s.pushCell (arrV c n (fun _ => v)))) : wp (Jvm.newArray c n v) Q E e d acts s := by
  rw [← arrV_new] at hq
  have hfits : ∀ i w, (Array.replicate n v)[i]? = some w → s.fitsSlot c .none i w = true := by
    intro i w hw
    simp only [Array.getElem?_replicate] at hw
    split at hw
    · cases hw; simp [State.fitsSlot, State.slotType?, hk, hkind, hfit]
    · cases hw
  have hda : allocActs (Array.replicate n v) s.heap.size acts = acts := by
    have hall : ((Array.replicate n v).all (·.isDefault)) = true := by
      rw [Array.all_replicate]; split <;> simp [hdef]
    unfold allocActs; rw [if_pos hall]
  simp only [Jvm.newArray, Jvm.arrayFits, wp_bind', W.ask, W.ite, hlimit, if_false, wp_pure', W.theClass, hk, hkind, hheap, W.alloc, W.stop, Option.some.injEq, exists_eq_left', Array.size_replicate, hda]
  rw [if_neg (by omega)]
  exact ⟨h1, h2, hfits, hq⟩
theorem mw_fits {t : FieldType} (v : Value) (hv : v = .null ∨ ∃ a, v = .ref a) : fits (.array t) v = true := by
  rcases hv with rfl | ⟨a, rfl⟩ <;> rfl
theorem mw_row {comp cc : ClassId} {kc : Class} {ty : FieldType} {m : Int32} (hkc : s.vm.classes[comp]? = some kc) (hkindc : kc.kind = .array cc ty) (hm : ¬ m < 0)
    (hl2 : ¬ m.toNatClampNeg > e.platform.arrayLengthLimit) (hh2 : ¬ m.toNatClampNeg * componentBytes ty > e.platform.maxHeapBytes) (hdf : fits ty (defaultValue ty) = true) (hdd : (defaultValue ty).isDefault = true)
    (h1 : s.heap.size < e.platform.maxCells) (h2 : s.slotsUsed + m.toNatClampNeg ≤ e.platform.maxSlots) {Q : Addr → Pre} (hq : Q s.heap.size d acts (s.pushCell (mrow comp m.toNatClampNeg (defaultValue ty)))) : wp (multianewarray.make comp [m]) Q E e d acts s := by
  rw [multianewarray.make]
  simp only [wp_bind', W.ite, hm, if_false, wp_pure', W.theClass, hkc, hkindc, Option.some.injEq, exists_eq_left']
  exact mw_new hkc hkindc hl2 hh2 hdf hdd h1 h2 hq
theorem mw_two {c comp cc : ClassId} {k kc : Class} {ty : FieldType} {n m : Int32} (hk : s.vm.classes[c]? = some k) (hkind : k.kind = .array comp (.array ty)) (hkc : s.vm.classes[comp]? = some kc) (hkindc : kc.kind = .array cc ty) (hn : ¬ n < 0) (hm : ¬ m < 0)
    (hl1 : ¬ n.toNatClampNeg > e.platform.arrayLengthLimit) (hh1 : ¬ n.toNatClampNeg * componentBytes (.array ty) > e.platform.maxHeapBytes) (hl2 : ¬ m.toNatClampNeg > e.platform.arrayLengthLimit) (hh2 : ¬ m.toNatClampNeg * componentBytes ty > e.platform.maxHeapBytes)
    (hdf : fits ty (defaultValue ty) = true) (hdd : (defaultValue ty).isDefault = true) (hc : s.heap.size + 1 + n.toNatClampNeg ≤ e.platform.maxCells) (hs : s.slotsUsed + n.toNatClampNeg + n.toNatClampNeg * m.toNatClampNeg ≤ e.platform.maxSlots)
    {Q : Addr → Pre} (hq : ∀ d' acts', Q s.heap.size d' acts' (mfl s c comp n.toNatClampNeg m.toNatClampNeg (defaultValue ty) n.toNatClampNeg)) : wp (multianewarray.make c [n, m]) Q E e d acts s := by
  have hfind : ([m].find? (· < 0)) = none := by simp [hm]
  rw [multianewarray.make]
  simp only [wp_bind', W.ite, hn, if_false, wp_pure', W.theClass, hk, hkind, Option.some.injEq, exists_eq_left']
  refine mw_new hk hkind hl1 hh1 (mw_fits _ (Or.inl rfl)) rfl (by omega) (by have := Nat.zero_le (n.toNatClampNeg * m.toNatClampNeg); omega) ?_
  simp only [hfind]
  rw [ite_self, wp_bind', Std.Legacy.Range.forIn_eq_forIn_range']
  have hsz : ([:n.toNatClampNeg] : Std.Legacy.Range).size = n.toNatClampNeg := by simp [Std.Legacy.Range.size]
  rw [hsz]
  show wp (forIn (List.range' 0 n.toNatClampNeg 1) PUnit.unit _) _ E e d acts _
  have h0 : s.pushCell (arrV c n.toNatClampNeg (fun _ => .null)) = mfl s c comp n.toNatClampNeg m.toNatClampNeg (defaultValue ty) 0 := by simp [mfl, mo]
  refine wp_forIn_inv (fun rest s' => ∃ i, i ≤ n.toNatClampNeg ∧ rest = List.range' i (n.toNatClampNeg - i) ∧ s' = mfl s c comp n.toNatClampNeg m.toNatClampNeg (defaultValue ty) i) _ _ ⟨0, Nat.zero_le _, rfl, h0⟩ ?_ ?_
  · rintro x rest s' d' acts' Q' ⟨i, hi, hl, rfl⟩ hnext
    have hlt : i < n.toNatClampNeg := by
      rcases Nat.lt_or_ge i n.toNatClampNeg with h | h
      · exact h
      · rw [show n.toNatClampNeg - i = 0 from by omega] at hl; simp at hl
    obtain ⟨rfl, hrest⟩ : x = i ∧ rest = List.range' (i + 1) (n.toNatClampNeg - (i + 1)) := by
      rw [show n.toNatClampNeg - i = (n.toNatClampNeg - (i + 1)) + 1 from by omega, List.range'_succ] at hl
      exact ⟨(List.cons.inj hl).1, (List.cons.inj hl).2⟩
    obtain ⟨f1, f2, f3, f4⟩ := mfl_facts s c comp n.toNatClampNeg m.toNatClampNeg (defaultValue ty) x
    have hmul : x * m.toNatClampNeg + m.toNatClampNeg ≤ n.toNatClampNeg * m.toNatClampNeg := by
      have := Nat.mul_le_mul_right m.toNatClampNeg (show x + 1 ≤ n.toNatClampNeg from hlt)
      rw [Nat.succ_mul] at this; exact this
    simp only [wp_bind']
    refine mw_row (by rw [f3]; exact hkc) hkindc hm hl2 hh2 hdf hdd (by rw [f1]; omega) (by rw [f4]; omega) ?_
    have hlt0 : s.heap.size < (mfl s c comp n.toNatClampNeg m.toNatClampNeg (defaultValue ty) x).heap.size := by rw [f1]; omega
    simp only [wp_bind', W.writeLoc, wp_pure']
    refine ⟨mo c n.toNatClampNeg s.heap.size x, by rw [State.heap_pushCell_of_lt (h := hlt0)]; exact f2, arr_nu, by unfold mo; rw [arrV_size]; exact hlt, ?_, hnext _ _ _ ⟨x + 1, hlt, hrest, ?_⟩⟩
    · show State.fitsSlot _ c .none _ _ = true
      simp [State.fitsSlot, State.slotType?, f3, hk, hkind, mw_fits _ (Or.inr ⟨_, rfl⟩)]
    · rw [f1, mo_succ]; rfl
  · rintro s' d' acts' ⟨i, hi, hl, rfl⟩
    have hiN : i = n.toNatClampNeg := by
      rcases Nat.lt_or_ge i n.toNatClampNeg with h | h
      · rw [show n.toNatClampNeg - i = (n.toNatClampNeg - (i + 1)) + 1 from by omega, List.range'_succ] at hl; cases hl
      · omega
    subst hiN
    simp only [wp_pure']
    exact hq _ _
end MuW
section MuS
variable {p : Program} {l : Launch} {e : Env} {R : Room} {s : State} {m : MethodId} {args : Array Value} {below : List Frame} {meth : Method} {c : Code} {T : State} {locs : List Loc} {cells slots : Nat}
theorem ms_fill (X : Stand p l e R s m args below meth c T locs cells slots) (cA comp : ClassId) (N M : Nat) (v : Value) :
    ∀ i, Stand p l e R s m args below meth c (mfl T cA comp N M v i) (locs ++ (List.range i).map fun j => ⟨T.heap.size, j⟩) (cells + 1 + i) (slots + N + i * M)
  | 0 => by
    have h := X.pushed (mo cA N T.heap.size 0)
    rw [show (mo cA N T.heap.size 0).slots.size = N from arrV_size _ _ _] at h
    simpa [mfl] using h
  | i + 1 => by
    have Xi := ms_fill X cA comp N M v i
    obtain ⟨f1, f2, f3, f4⟩ := mfl_facts T cA comp N M v i
    have hlt0 : T.heap.size < (mfl T cA comp N M v i).heap.size := by rw [f1]; omega
    have hcell : ((mfl T cA comp N M v i).pushCell (mrow comp M v)).heap[T.heap.size]? = some (mo cA N T.heap.size i) := by rw [State.heap_pushCell_of_lt (h := hlt0)]; exact f2
    have h := (Xi.pushed (mrow comp M v)).stored hcell i (.ref (T.heap.size + 1 + i))
    rw [show (mrow comp M v).slots.size = M from arrV_size _ _ _, mo_succ] at h
    have e2 : (locs ++ (List.range (i + 1)).map fun j => (⟨T.heap.size, j⟩ : Loc)) = (locs ++ (List.range i).map fun j => (⟨T.heap.size, j⟩ : Loc)) ++ [⟨T.heap.size, i⟩] := by simp [List.range_succ, List.append_assoc]
    have e3 : slots + N + (i + 1) * M = slots + N + i * M + M := by rw [Nat.succ_mul]; omega
    rw [e2, e3]
    exact h
end MuS
/-- the abstract heap behind it -/
def hmul (h : AH) (ty : FieldType) (N K : Nat) : AH := (h.1 + 1 + N, h.2.1 + N + N * K, fun a => if a = h.1 then some (.inl (.array ty, N, fun j => if j < N then .ref (h.1 + 1 + j) else .null)) else if h.1 < a ∧ a ≤ h.1 + N then some (.inl (ty, K, fun _ => defaultValue ty)) else h.2.2 a)
theorem multi_words : ∀ ty ∈ ([.byte, .boolean, .int] : List FieldType), (FieldType.array ty ∈ atys ∧ ty ∈ atys) ∧ fits ty (defaultValue ty) = true ∧ (defaultValue ty).isDefault = true ∧ componentBytes ty ≤ 4 ∧ "[" ++ (FieldType.array ty).toString = "[[" ++ ty.toString := by
  intro ty h
  simp only [List.mem_cons, List.not_mem_nil, or_false] at h
  rcases h with rfl | rfl | rfl <;> exact ⟨⟨by decide, by decide⟩, rfl, rfl, by decide, by decide⟩
section MuR
variable {D : va_G} {dA : FieldType → ClassId} {base : Nat} {own : String} {cc : ByteArray}
variable {p : Program} {l : Launch} {e : Env} {R : Room} {s : State} {m : MethodId} {args : Array Value} {below : List Frame} {meth : Method} {c : Code} {Q : State → Prop}
variable {H : Heap} {locs : List Loc} {cells slots pc : Nat} {ls : Array Slot} {rest : List Value} {h : AH}
theorem rw_multi (hexec : p.tables.exec = Jvm.exec) (hb : c.code = cc) (hW : Wd D dA s) (hown : s.vm.findClass own = some m.cls) {ty : FieldType} {n k : Int32} {idx wi : Nat} (hty : ty ∈ ([.byte, .boolean, .int] : List FieldType)) (hR : Rp D dA base h H) (hS0 : va_S (fun q => base ≤ q) s.heap H locs) (hw : lw_tbl[wi]? = some (.classLink own idx ("[" ++ (FieldType.array ty).toString)))
    (hn : ¬ n < 0) (hk : ¬ k < 0) (hn2 : n.toNatClampNeg ≤ 100000) (hk2 : k.toNatClampNeg ≤ 100000) (hcells : cells + (1 + n.toNatClampNeg) ≤ R.cells) (hslots : slots + (n.toNatClampNeg + n.toNatClampNeg * k.toNatClampNeg) ≤ R.slots) (hdg : decode cc pc = .ok (.multianewarray idx 2, 4))
    (kk : ∀ (H1 : Heap) (locs1 : List Loc), Rp D dA base (hmul h ty n.toNatClampNeg k.toNatClampNeg) H1 → va_S (fun q => base ≤ q) s.heap H1 locs1 → W p l e R s m args below meth c H1 locs1 (cells + 1 + n.toNatClampNeg) (slots + n.toNatClampNeg + n.toNatClampNeg * k.toNatClampNeg) Q (F0 m (pc + 4) ls (.ref h.1 :: rest))) : W p l e R s m args below meth c H locs cells slots Q (F0 m pc ls (.int k :: .int n :: rest)) := by
  intro T hT X
  obtain ⟨⟨t1, t2⟩, hdf, hdd, hcb, -⟩ := multi_words ty hty
  have hpl : e.platform.magicAccessors = ({} : Platform).magicAccessors := by rw [X.admits.platform]
  obtain ⟨kA, hkA, hkindA⟩ := hW.2.2.2.2 ty hty
  obtain ⟨-, kC, hkC, cm, hkindC⟩ := (hW.2.2.1 ty t2).1 0 (fun _ => .null)
  have hnameA : s.vm.findClass ("[" ++ (FieldType.array ty).toString) = some (dA (.array ty)) := (hW.2.2.1 _ t1).2
  obtain ⟨c0, hfc0, hcl⟩ := Cond.classLink_spec hown (hW.at hw rfl (A := args)) e.platform hpl
  cases hnameA.symm.trans hfc0
  obtain ⟨hg₁, hwarm₁, hready₁⟩ := State.classEntry (e := e) X.warmed hcl
  generalize T.vm.noted m.cls idx (.cls (dA (.array ty))) = vm₁ at hg₁ hwarm₁ hready₁
  have hal : s.vm.Alike vm₁ := hwarm₁.alike
  obtain ⟨kA₁, hkA₁, heA⟩ := hal.2.2 _ _ hkA
  obtain ⟨kC₁, hkC₁, heC⟩ := hal.2.2 _ _ hkC
  have hkindA₁ : kA₁.kind = .array (dA ty) (.array ty) := by rw [heA]; exact hkindA
  have hkindC₁ : kC₁.kind = .array cm ty := by rw [heC]; exact hkindC
  have X₁ := X.noted hwarm₁
  obtain ⟨hr1, hr2⟩ := X.roomAbove hcells hslots
  have hl1 : ¬ n.toNatClampNeg > e.platform.arrayLengthLimit := by rw [Launch.admits_arrayLengthLimit X.admits]; omega
  have hh1 : ¬ n.toNatClampNeg * componentBytes (.array ty) > e.platform.maxHeapBytes := by
    rw [Launch.admits_maxHeapBytes X.admits]; show ¬ n.toNatClampNeg * 4 > 536870912; omega
  have hl2 : ¬ k.toNatClampNeg > e.platform.arrayLengthLimit := by rw [Launch.admits_arrayLengthLimit X.admits]; omega
  have hh2 : ¬ k.toNatClampNeg * componentBytes ty > e.platform.maxHeapBytes := by
    rw [Launch.admits_maxHeapBytes X.admits]
    have := Nat.mul_le_mul hk2 hcb
    omega
  have XF := ms_fill X₁ (dA (.array ty)) (dA ty) n.toNatClampNeg k.toNatClampNeg (defaultValue ty) n.toNatClampNeg
  obtain ⟨f1, f2, f3, f4⟩ := mfl_facts (T.setVm vm₁) (dA (.array ty)) (dA ty) n.toNatClampNeg k.toNatClampNeg (defaultValue ty) n.toNatClampNeg
  have hsz : (T.setVm vm₁).heap.size = h.1 := by show T.heap.size = h.1; rw [hT]; exact hR.1
  have hold : ∀ a : Nat, a < h.1 → (mfl (T.setVm vm₁) (dA (.array ty)) (dA ty) n.toNatClampNeg k.toNatClampNeg (defaultValue ty) n.toNatClampNeg).heap[a]? = H[a]? := fun a ha => by
    rw [mfl_old _ _ _ _ _ _ (by rw [hsz]; exact ha)]
    show T.heap[a]? = _
    rw [hT]
  have hRp : Rp D dA base (hmul h ty n.toNatClampNeg k.toNatClampNeg) (mfl (T.setVm vm₁) (dA (.array ty)) (dA ty) n.toNatClampNeg k.toNatClampNeg (defaultValue ty) n.toNatClampNeg).heap := by
    refine ⟨by rw [f1, hsz]; rfl, Nat.le_trans hR.2.1 (show h.1 ≤ h.1 + 1 + n.toNatClampNeg by omega), fun a o ho => ?_⟩
    have ho : (if a = h.1 then some (Sum.inl (FieldType.array ty, n.toNatClampNeg, fun j => if j < n.toNatClampNeg then Value.ref (h.1 + 1 + j) else .null)) else if h.1 < a ∧ a ≤ h.1 + n.toNatClampNeg then some (.inl (ty, k.toNatClampNeg, fun _ => defaultValue ty)) else h.2.2 a) = some o := ho
    split at ho
    · rename_i ea
      cases ho
      refine ⟨by rw [ea]; exact hR.2.1, t1, ?_⟩
      rw [ea, ← hsz, f2]
      rfl
    · split at ho
      · rename_i ea
        cases ho
        refine ⟨Nat.le_trans hR.2.1 (Nat.le_of_lt ea.1), t2, ?_⟩
        have := mfl_row (T.setVm vm₁) (dA (.array ty)) (dA ty) n.toNatClampNeg k.toNatClampNeg (defaultValue ty) n.toNatClampNeg (a - (h.1 + 1)) (by omega)
        rw [hsz, show h.1 + 1 + (a - (h.1 + 1)) = a by omega] at this
        exact this
      · have h3 := hR.2.2 a o ho
        exact ⟨h3.1, h3.2.kept (hold a (by rw [← hR.1]; exact h3.2.lt))⟩
  have hSF : va_S (fun q => base ≤ q) s.heap (mfl (T.setVm vm₁) (dA (.array ty)) (dA ty) n.toNatClampNeg k.toNatClampNeg (defaultValue ty) n.toNatClampNeg).heap (locs ++ (List.range n.toNatClampNeg).map fun j => ⟨(T.setVm vm₁).heap.size, j⟩) := by
    refine ⟨Nat.le_trans hS0.1 (by rw [f1, hsz, hR.1]; omega), fun q g1 g2 => (hold q (by rw [← hR.1]; exact Nat.lt_of_lt_of_le g1 hS0.1)).trans (hS0.2.1 q g1 g2), fun q hq => ?_⟩
    rcases List.mem_append.mp hq with hq | hq
    · exact hS0.2.2 q hq
    · obtain ⟨j, -, rfl⟩ := List.mem_map.mp hq
      show base ≤ (T.setVm vm₁).heap.size
      rw [hsz]
      exact hR.2.1
  obtain ⟨t, a1, b1⟩ := kk _ _ hRp hSF _ rfl XF
  refine ⟨t, ?_, b1⟩
  have hdg' : decode c.code pc = .ok (.multianewarray idx 2, 4) := by rw [hb]; exact hdg
  rw [← hsz] at a1
  jvm_step X.here [hexec, hdg']
  simp only [multianewarray.sem, wp_bind', W.resolveClassAt_links (State.method?_setTop (F0 m pc ls (.int k :: .int n :: rest)) X.here.top) hg₁]
  rw [W.popN, if_neg (by decide)]
  refine ⟨F0 m pc ls (.int k :: .int n :: rest), State.topJava?_setTop' (s := T.setVm vm₁) _ X.here.top, [.int n, .int k], rest, rfl, rfl, ?_⟩
  simp only [List.mapM_cons, List.mapM_nil, wp_bind', wp_pure']
  refine mw_two (k := kA₁) (kc := kC₁) (comp := dA ty) (cc := cm) (ty := ty) hkA₁ hkindA₁ hkC₁ hkindC₁ hn hk hl1 hh1 hl2 hh2 hdf hdd (by show T.heap.size + 1 + _ ≤ _; omega) (by show T.slotsUsed + _ + _ ≤ _; omega) (fun d' acts' => ?_)
  have eS : ((T.setTop (F0 m pc ls (.int k :: .int n :: rest))).setVm vm₁).setTop { F0 m pc ls (.int k :: .int n :: rest) with stack := rest } = (T.setVm vm₁).setTop { F0 m pc ls (.int k :: .int n :: rest) with stack := rest } := by
    show ((T.setVm vm₁).setTop _).setTop _ = _
    rw [State.setTop_setTop]
  rw [eS, mfl_top]
  simp only [wp_bind', W.mark, W.pushRef, State.topJava?_setTop' _ XF.here.top, Option.some.injEq, exists_eq_left', State.setTop_setTop, State.heap_setTop]
  intro acts
  simp [jvm, XF.here.top]
  exact a1
end MuR
end
section
/-! the run again, piece by piece over what comes behind it -/
abbrev RF : Type := Nat → MI → Nat → List (Option Value) → List Value → AH → Option (AH × RO)
def stF (sb sL : Nat) (sx : Nat → Int32) (rc : RF) (d : Nat) (M : MI) (ins : Instr) (nx : Nat) (ri : List Nat) (lv : List (Option Value)) (st : List Value) (h : AH) : Option (AH × RO) := match stp sb sL sx (mL M) ins nx ri lv st h with
  | some z => rc d M z.1 z.2.1 z.2.2.1 z.2.2.2
  | none => none
def fiF (M : MI) (ins : Instr) (st : List Value) (h : AH) : Option (AH × RO) := match retV (mR M) ins st with
  | some v => some (h, .inl v)
  | none => none
/-- behind a callee that has thrown -/
def ctF (rc : RF) (d : Nat) (M : MI) (pc : Nat) (lv : List (Option Value)) (h : AH) (E : Nat) : Option (AH × RO) := if (mY M).cls = "TapeVaultLaw" then (match fh (mH M) pc E with
  | none => none
  | some hp => match fet (mE M) hp with
    | some (.astore_n q, nx2, _) => if (q : Nat) < mL M then rc d M nx2 ((lv1 lv q .null).set q none) [] h else none
    | some (.astore q, nx2, _) => if q < mL M then rc d M nx2 ((lv1 lv q .null).set q none) [] h else none
    | _ => none) else none
/-- System.arraycopy between two arrays of one type, whose elements are of that type -/
def acq (st : List Value) (h : AH) : Option (List Value × AH) := match st with
  | .int n :: .int dp :: .ref a :: .int sp :: .ref a0 :: r => match h.2.2 a0, h.2.2 a with
    | some (.inl (t0, n0, f)), some (.inl (t1, n1, g)) => if t0 = t1 ∧ (t0 = .long ∨ t0 = .byte) ∧ ¬ sp < 0 ∧ ¬ dp < 0 ∧ ¬ n < 0 ∧ sp.toNatClampNeg + n.toNatClampNeg ≤ n0 ∧ dp.toNatClampNeg + n.toNatClampNeg ≤ n1 ∧ (∀ i, i < n.toNatClampNeg → fits t0 (f (sp.toNatClampNeg + i)) = true) then some (r, hput h a (.inl (t1, n1, va_cpy f g sp.toNatClampNeg dp.toNatClampNeg n.toNatClampNeg))) else none
    | _, _ => none
  | _ => none
/-- a call of a method of the tables -/
def cdF (rc : RF) (d : Nat) (M : MI) (pc nx kd na k : Nat) (t : List Nat) (lv : List (Option Value)) (st : List Value) (h : AH) : Option (AH × RO) := match d with
  | 0 => none
  | d' + 1 => match popN na st with
    | none => none
    | some z => match tgtM kd k t z.2 h with
      | none => none
      | some y => match mt[y.1]? with
        | none => none
        | some M' => if ((y.2.1 ++ z.1).flatMap ent1).length ≤ mL M' ∧ wsum y.2.2 ≤ 8 then (match rc d' M' 0 (ent (mL M') (y.2.1 ++ z.1)) [] h with
            | none => none
            | some (h1, .inl v) => rc (d' + 1) M nx lv (v.toList ++ y.2.2) h1
            | some (h1, .inr E) => if kd = 9 then ctF rc (d' + 1) M pc lv h1 E else none)
          else none
def caF (rc : RF) (d : Nat) (M : MI) (pc nx : Nat) (ri : List Nat) (lv : List (Option Value)) (st : List Value) (h : AH) : Option (AH × RO) := match ri with
  | 10 :: _ => match st with
    | .ref _ :: r => if 1 ≤ d ∧ wsum r ≤ 8 then rc d M nx lv r h else none
    | _ => none
  | 7 :: _ => match acq st h with
    | some z => if 2 ≤ d ∧ wsum z.1 ≤ 8 then rc d M nx lv z.1 z.2 else none
    | none => none
  | 11 :: _ => match st with
    | .int y :: .int x :: r => if 1 ≤ d ∧ wsum r ≤ 8 then rc d M nx lv (.int (if x < y then y else x) :: r) h else none
    | _ => none
  | 12 :: _ => match st with
    | .int y :: .int x :: r => if 1 ≤ d ∧ wsum r ≤ 8 then rc d M nx lv (.int (if y < x then y else x) :: r) h else none
    | _ => none
  | kd :: na :: k :: t => cdF rc d M pc nx kd na k t lv st h
  | _ => none
def muT : Nat → Option FieldType
  | 6 => some .byte
  | 7 => some .boolean
  | 8 => some .int
  | _ => none
def mchk (M : MI) (pc i nx w : Nat) (ty : FieldType) : Bool := decide (decode (mB M) pc = .ok (.multianewarray i 2, 4)) && decide (lw_tbl[w]? = some (.classLink (mY M).cls i ("[" ++ (FieldType.array ty).toString))) && decide (nx = pc + 4)
def muG (rc : RF) (d : Nat) (M : MI) (pc i nx : Nat) (ty : FieldType) (w : Nat) (lv : List (Option Value)) (st : List Value) (h : AH) : Option (AH × RO) := match st with
  | .int k :: .int n :: r => if mchk M pc i nx w ty = true ∧ ¬ n < 0 ∧ ¬ k < 0 ∧ n.toNatClampNeg ≤ 100000 ∧ k.toNatClampNeg ≤ 100000 then rc d M nx lv (.ref h.1 :: r) (hmul h ty n.toNatClampNeg k.toNatClampNeg) else none
  | _ => none
def muF (rc : RF) (d : Nat) (M : MI) (pc i nx : Nat) (ri : List Nat) (lv : List (Option Value)) (st : List Value) (h : AH) : Option (AH × RO) := match ri with
  | t :: w :: _ => match muT t with
    | some ty => muG rc d M pc i nx ty w lv st h
    | none => none
  | _ => none
def dpF (sb sL : Nat) (sx : Nat → Int32) (rc : RF) (d : Nat) (M : MI) (pc : Nat) (ins : Instr) (nx : Nat) (ri : List Nat) (lv : List (Option Value)) (st : List Value) (h : AH) : Option (AH × RO) := match ins with
  | .ireturn => fiF M ins st h
  | .lreturn => fiF M ins st h
  | .areturn => fiF M ins st h
  | .return_ => fiF M ins st h
  | .invokevirtual _ => caF rc d M pc nx ri lv st h
  | .invokespecial _ => caF rc d M pc nx ri lv st h
  | .invokestatic _ => caF rc d M pc nx ri lv st h
  | .multianewarray i _ => muF rc d M pc i nx ri lv st h
  | .new _ => match ri with
    | [50, E, _, _] => if 5 < d ∧ wsum st ≤ 8 then some (hskip h 6, .inr E) else none
    | _ => stF sb sL sx rc d M ins nx ri lv st h
  | _ => stF sb sL sx rc d M ins nx ri lv st h
def rnF (sb sL : Nat) (sx : Nat → Int32) : Nat → RF
  | 0 => fun _ _ _ _ _ _ => none
  | n + 1 => fun d M pc lv st h => match fet (mE M) pc with
    | none => none
    | some q => dpF sb sL sx (rnF sb sL sx n) d M pc q.1 q.2.1 q.2.2 lv st h
section SndR
variable {D : va_G} {dA : FieldType → ClassId} {base b L : Nat} {xs : Nat → Int32} {l : Launch}
/-- how a frame ends -/
def FinW (D : va_G) (dA : FieldType → ClassId) (base n0 s0 : Nat) (M : MI) (p : Program) (l : Launch) (e : Env) (R : Room) (s : State) (m : MethodId) (args : Array Value) (below : List Frame) (meth : Method) (c : Code) (Q : State → Prop) (h' : AH) (o : RO) : Prop := match o with
  | .inl v => ∀ (H : Heap) (locs : List Loc) (cells slots : Nat) (ls : Array Slot) (pc : Nat) (st : List Value) (ins : Instr), Rp D dA base h' H → va_S (fun q => base ≤ q) s.heap H locs → cells + n0 = h'.1 → slots + s0 = h'.2.1 → retV (mR M) ins st = some v → decode (mB M) pc = .ok (ins, 1) → W p l e R s m args below meth c H locs cells slots Q (F0 m pc ls st)
  | .inr E => ∀ (h0 : AH) (H : Heap) (locs : List Loc) (cells slots : Nat) (ls : Array Slot) (pc : Nat) (st : List Value) (ik nx ic w : Nat), h' = hskip h0 6 → Rp D dA base h0 H → va_S (fun q => base ≤ q) s.heap H locs → ls.size = mL M → cells + n0 = h0.1 → slots + s0 = h0.2.1 → 5 < R.frames → wsum st ≤ 8 → eokx M (pc, .new ik, nx, [50, E, ic, w]) = true → W p l e R s m args below meth c H locs cells slots Q (F0 m pc ls st)
/-- a frame's surroundings are good -/
def Gd (D : va_G) (dA : FieldType → ClassId) (base b L : Nat) (xs : Nat → Int32) (n0 s0 : Nat) (M : MI) (p : Program) (l : Launch) (e : Env) (R : Room) (s : State) (m : MethodId) (args : Array Value) (below : List Frame) (meth : Method) (c : Code) (Q : State → Prop) (d : Nat) (h' : AH) (o : RO) : Prop :=
  Cx D dA base b L xs (mY M).cls (mB M) (mL M) p s m meth c ∧ ((mY M).name = "<init>" → meth.name = "<init>") ∧ c.exceptionTable.toList = tableOf (mH M) ∧ R.frames = d ∧ 28 * d ≤ R.locals ∧ h'.1 ≤ n0 + R.cells ∧ h'.2.1 ≤ s0 + R.slots ∧ FinW D dA base n0 s0 M p l e R s m args below meth c Q h' o
/-- what the abstract run comes to, the machine comes to -/
def Ok (D : va_G) (dA : FieldType → ClassId) (base b L : Nat) (xs : Nat → Int32) (l : Launch) (d : Nat) (M : MI) (pc : Nat) (lv : List (Option Value)) (st : List Value) (h : AH) (h' : AH) (o : RO) : Prop :=
  (h.1 ≤ h'.1 ∧ h.2.1 ≤ h'.2.1) ∧ ∀ (p : Program) (e : Env) (R : Room) (s : State) (m : MethodId) (args : Array Value) (below : List Frame) (meth : Method) (c : Code) (Q : State → Prop) (n0 s0 : Nat), Gd D dA base b L xs n0 s0 M p l e R s m args below meth c Q d h' o → KK D dA base n0 s0 (mL M) p l e R s m args below meth c Q pc lv st h
def Snd (D : va_G) (dA : FieldType → ClassId) (base b L : Nat) (xs : Nat → Int32) (l : Launch) (rc : RF) : Prop := ∀ (d : Nat) (M : MI) (pc : Nat) (lv : List (Option Value)) (st : List Value) (h h' : AH) (o : RO), mokb M = true → rc d M pc lv st h = some (h', o) → Ok D dA base b L xs l d M pc lv st h h' o
theorem eok_of {M : MI} {pc nx : Nat} {ins : Instr} {ri : List Nat} (h : eokx M (pc, ins, nx, ri) = true) (h1 : ∀ ik, ins = .new ik → ∀ r, ri ≠ 50 :: r) (h2 : ∀ i j, ins ≠ .multianewarray i j) : eok (mY M).cls (mB M) (decide ((mY M).name = "<init>")) (pc, ins, nx, ri) = true ∧ cok (mY M).cls (mB M) (pc, ins, nx, ri) = true := by
  unfold eokx at h
  split at h
  · rename_i ik r e1 e2
    exact absurd e2 (h1 ik e1 r)
  · exact absurd ‹_ = Instr.multianewarray _ _› (h2 _ _)
  · rwa [Bool.and_eq_true] at h
theorem st_ok {rc : RF} (hS : Snd D dA base b L xs l rc) {d : Nat} {M : MI} {pc nx : Nat} {ins : Instr} {ri : List Nat} {lv : List (Option Value)} {st : List Value} {h h' : AH} {o : RO} (hM : mokb M = true) (he : eok (mY M).cls (mB M) (decide ((mY M).name = "<init>")) (pc, ins, nx, ri) = true) (hr : stF b L xs rc d M ins nx ri lv st h = some (h', o)) : Ok D dA base b L xs l d M pc lv st h h' o := by
  unfold stF at hr
  cases hz : stp b L xs (mL M) ins nx ri lv st h with
  | none => rw [hz] at hr; cases hr
  | some z =>
    rw [hz] at hr
    obtain ⟨m1, k1⟩ := hS d M z.1 z.2.1 z.2.2.1 z.2.2.2 h' o hM hr
    have m2 := stp_mono hz
    refine ⟨⟨Nat.le_trans m2.1 m1.1, Nat.le_trans m2.2 m1.2⟩, fun p e R s m args below meth c Q n0 s0 g => ?_⟩
    exact stp_ok g.1 (fun q => g.2.1 (of_decide_eq_true q)) he hz ⟨Nat.le_trans m1.1 g.2.2.2.2.2.1, Nat.le_trans m1.2 g.2.2.2.2.2.2.1⟩ (k1 p e R s m args below meth c Q n0 s0 g)
theorem fi_ok {d : Nat} {M : MI} {pc nx : Nat} {ins : Instr} {ri : List Nat} {lv : List (Option Value)} {st : List Value} {h h' : AH} {o : RO} (hdg : decode (mB M) pc = .ok (ins, 1)) (hr : fiF M ins st h = some (h', o)) : Ok D dA base b L xs l d M pc lv st h h' o := by
  unfold fiF at hr
  cases hv : retV (mR M) ins st with
  | none => rw [hv] at hr; cases hr
  | some v =>
    rw [hv] at hr
    cases hr
    refine ⟨⟨Nat.le_refl _, Nat.le_refl _⟩, fun p e R s m args below meth c Q n0 s0 g => ?_⟩
    intro H locs cells slots ls hR hS hL hc hl
    exact g.2.2.2.2.2.2.2 H locs cells slots ls pc st ins hR hS hc hl hv hdg
/-- a callee that returns, by its contract -/
theorem met_of {rc : RF} (hS : Snd D dA base b L xs l rc) {d : Nat} {M : MI} {as : List Value} {h h1 : AH} {v : Option Value} (hm : M ∈ mt) (hy : plainName (mY M).cls = true) (hlen : (as.flatMap ent1).length ≤ mL M) (hr : rc d M 0 (ent (mL M) as) [] h = some (h1, .inl v)) :
    Met l (mY M) [cwd M] ({ frames := d, cells := h1.1 - h.1, slots := h1.2.1 - h.2.1, locals := 28 * d }) (va_Pc as (PreU D dA base b L xs h)) (QU D dA base h1 v) (h1.1 - h.1) (h1.2.1 - h.2.1) (fun q => base ≤ q) := by
  have hok := mok_all M hm
  obtain ⟨m1, k1⟩ := hS d M 0 _ _ h h1 _ hok hr
  have body : ∀ (p : Program) (e : Env) (s : State) (m : MethodId) (args : Array Value) (below : List Frame) (meth : Method) (c : Code) (s₁ : State), BodyLoose p l (mY M) (headSpec [cwd M] ({ frames := d, cells := h1.1 - h.1, slots := h1.2.1 - h.2.1, locals := 28 * d })) (mB M) (mL M) (mR M) e s m args below meth c s₁ → c.maxLocals = mL M → c.exceptionTable.toList = tableOf (mH M) → va_Pc as (PreU D dA base b L xs h) args s →
      W p l e (headSpec [cwd M] ({ frames := d, cells := h1.1 - h.1, slots := h1.2.1 - h.2.1, locals := 28 * d })).room s m args below meth c s.heap [] 0 0 (MQ below (QU D dA base h1 v) args s (h1.1 - h.1) (h1.2.1 - h.2.1) (fun q => base ≤ q)) (entryFrame m args (mL M)) := by
    intro p e s m args below meth c s₁ B hml htab hv
    obtain ⟨rfl, hW, hH, hR⟩ := hv
    rw [lg_entry_eq]
    refine k1 p e _ s m as.toArray below meth c _ h.1 h.2.1 ⟨⟨B.exec, B.bytes, hml, findClass_of_methodNamed B.named, hW, hH, B.notSynchronized⟩, fun q => ?_, htab, rfl, Nat.le_refl _, ?_, ?_, ?_⟩ s.heap [] 0 0 _ hR va_S.rf (LV.entry hlen) (Nat.zero_add _) (Nat.zero_add _)
    · exact (name_of_methodNamed B.named B.method).1.trans q
    · show h1.1 ≤ h.1 + (h1.1 - h.1)
      omega
    · show h1.2.1 ≤ h.2.1 + (h1.2.1 - h.2.1)
      omega
    · intro H locs cells slots ls pc st ins hR1 hS1 hc hl hv hdg
      have ec : cells = h1.1 - h.1 := by omega
      have el : slots = h1.2.1 - h.2.1 := by omega
      subst ec el
      exact ret_ok B.exec B.bytes B.returns B.notSynchronized hv hdg (fun t ht _ => ⟨rfl, by rw [ht]; exact hR1, hS1.F ht⟩) hS1.2.2
  cases hH : mH M with
  | nil =>
    have hc : cwd M = .code (mY M) (mB M) (mL M) (mR M) := by unfold cwd; rw [hH]
    refine Met.ofW (cc := mB M) (maxL := mL M) (ret := mR M) (ws' := []) hy (by rw [hc]) ?_
    intro p e s m args below meth c s₁ B hml hv
    refine body p e s m args below meth c s₁ B hml ?_ hv
    obtain ⟨meth9, c9, g1, g2, -, -, -, -, g7, -⟩ := Cond.code_spec B.named (atoms_spec (ws := [cwd M]) B.pre _ (by rw [hc]; exact List.mem_singleton.mpr rfl))
    cases Option.some.inj (g1.symm.trans B.method)
    cases Option.some.inj (g2.symm.trans (Stand.of_body B).code)
    rw [hH, Array.isEmpty_iff.mp g7]
    rfl
  | cons q t =>
    have hc : cwd M = .codeWith (mY M) (mB M) (mL M) (mR M) (mH M) := by unfold cwd; rw [hH]
    refine va_MetW (cc := mB M) (maxL := mL M) (ret := mR M) (hh := mH M) (ws' := []) hy (by rw [hc]) ?_
    intro p e s m args below meth c s₁ B hml hv
    exact body p e s m args below meth c s₁ B hml (vx_table (x := mY M) B (atoms_spec (ws := [cwd M]) B.pre _ (by rw [hc]; exact List.mem_singleton.mpr rfl))) hv
end SndR
end
section
/-! calls -/
section SndC
variable {D : va_G} {dA : FieldType → ClassId} {base b L : Nat} {xs : Nat → Int32} {l : Launch}
theorem yok_inv {y : MethodName} {na : Nat} (h : yok y na = true) : (y.cls ≠ "java/lang/invoke/MethodHandle" ∧ y.cls ≠ "java/lang/invoke/VarHandle") ∧ (∀ sig, parseMethodDescriptor y.desc = some sig → na = sig.parameters.length) ∧ plainName y.cls = true := by
  simp only [yok, Bool.and_eq_true, decide_eq_true_eq] at h
  obtain ⟨⟨⟨h1, h2⟩, h3⟩, h4⟩ := h
  refine ⟨⟨h1, h2⟩, fun sig hs => ?_, h4⟩
  rw [hs] at h3
  exact (Option.some.inj h3).symm
theorem wis_inv {i : Nat} {w : Cond} (h : wis i w = true) : lw_tbl[i]? = some w := of_decide_eq_true h
/-- what every call has: the callee's contract, its room -/
theorem room_ok {R : Room} {d mL' : Nat} (h1 : R.frames = d + 1) (h2 : 28 * (d + 1) ≤ R.locals) (h3 : mL' ≤ 9) : d + 1 ≤ R.frames ∧ 8 + (mL' + 11) + 28 * d ≤ R.locals := ⟨by omega, by omega⟩
/-- the call's end, for all kinds: r1 is the machine's run of the callee -/
theorem cd_fin {rc : RF} (hS : Snd D dA base b L xs l rc) {d : Nat} {M : MI} {pc nx : Nat} {lv : List (Option Value)} {st rest : List Value} {h h1 h' : AH} {o : RO} {v : Option Value} {as : List Value} (hM : mokb M = true) (hnx : nx = pc + 3) (m1 : h.1 ≤ h1.1 ∧ h.2.1 ≤ h1.2.1) (hr : rc (d + 1) M nx lv (v.toList ++ rest) h1 = some (h', o))
    (r1 : ∀ (p : Program) (e : Env) (R : Room) (s : State) (m : MethodId) (args : Array Value) (below : List Frame) (meth : Method) (c : Code) (H : Heap) (locs : List Loc) (cells slots : Nat) (ls : Array Slot), Cx D dA base b L xs (mY M).cls (mB M) (mL M) p s m meth c → R.frames = d + 1 → 28 * (d + 1) ≤ R.locals → Rp D dA base h H → va_S (fun q => base ≤ q) s.heap H locs → ls.size = mL M → cells + (h1.1 - h.1) ≤ R.cells ∧ slots + (h1.2.1 - h.2.1) ≤ R.slots →
      va_Run p l e R s m args below meth c H locs cells slots (h1.1 - h.1) (h1.2.1 - h.2.1) (F0 m pc ls st) rest (QU D dA base h1 v as.toArray) (fun q => base ≤ q)) : Ok D dA base b L xs l (d + 1) M pc lv st h h' o := by
  obtain ⟨m2, k2⟩ := hS (d + 1) M nx lv _ h1 h' o hM hr
  refine ⟨⟨Nat.le_trans m1.1 m2.1, Nat.le_trans m1.2 m2.2⟩, fun p e R s m args below meth c Q n0 s0 g => ?_⟩
  intro H locs cells slots ls hR hS1 hL hc hl
  have g5 := g.2.2.2.2.2.1
  have g6 := g.2.2.2.2.2.2.1
  subst hnx
  exact after_call (h := h) (r1 p e R s m args below meth c H locs cells slots ls g.1 g.2.2.2.1 g.2.2.2.2.1 hR hS1 (hL.2.1) ⟨by omega, by omega⟩) hS1 hL hc hl (by omega) (by omega) (k2 p e R s m args below meth c Q n0 s0 g)
/-- the parts of a callee's words that all kinds ask -/
theorem cw_parts {M' : MI} (hm : M' ∈ mt) (hH : mH M' = []) {s : State} {args : Array Value} (hW : Wd D dA s) : cwd M' = .code (mY M') (mB M') (mL M') (mR M') ∧ (∀ w ∈ [Cond.code (mY M') (mB M') (mL M') (mR M')], ∀ (a' : Array Value) (U : State), s.WarmedH U.vm → w.before a' U = true) ∧ (Cond.code (mY M') (mB M') (mL M') (mR M')).before args s = true := by
  have hc : cwd M' = .code (mY M') (mB M') (mL M') (mR M') := by unfold cwd; rw [hH]
  have hw := cw_all M' hm
  rw [hc] at hw
  exact ⟨hc, ws_later hW hw rfl, hW.word hw rfl⟩
/-- a static call -/
theorem cd_static {rc : RF} (hS : Snd D dA base b L xs l rc) {d : Nat} {M M' : MI} {pc nx idx na k w1 w2 w3 : Nat} {nest : Bool} {lv : List (Option Value)} {st rest : List Value} {h h1 h' : AH} {o : RO} {v : Option Value} {as : List Value} (hM : mokb M = true) (hdg : decode (mB M) pc = .ok (.invokestatic idx, 3)) (hnx : nx = pc + 3) (hk : mt[k]? = some M') (hok : cokS (mY M).cls idx nest false na k w1 w2 w3 = true) (hn : as.length = na) (hst : st = as.reverse ++ rest)
    (hlen : (as.flatMap ent1).length ≤ mL M') (hw : wsum rest ≤ 8) (hr1 : rc d M' 0 (ent (mL M') as) [] h = some (h1, .inl v)) (hr : rc (d + 1) M nx lv (v.toList ++ rest) h1 = some (h', o)) : Ok D dA base b L xs l (d + 1) M pc lv st h h' o := by
  have hm := List.mem_of_getElem? hk
  simp only [cokS, hk, Option.any_some, Bool.and_eq_true] at hok
  obtain ⟨⟨⟨⟨h1y, h2⟩, h3⟩, h4⟩, h5⟩ := hok
  obtain ⟨y1, y2, y3⟩ := yok_inv h1y
  have hH : mH M' = [] := by simpa using h5
  have hMet := met_of hS hm y3 hlen hr1
  refine cd_fin (as := as) hS hM hnx (hS d M' 0 _ _ h h1 _ (mok_all M' hm) hr1).1 hr fun p e R s m args below meth c H locs cells slots ls cx f1 f2 hR hS1 hsz hf => ?_
  obtain ⟨hx, hb, hml, hown, hW, hHw, hlocks⟩ := cx
  obtain ⟨q1, q2, q3⟩ := cw_parts (args := args) hm hH hW
  rw [q1] at hMet
  obtain ⟨r1, r2⟩ := room_ok f1 f2 (mL_all M' hm)
  cases nest with
  | false =>
    exact va_runS (Ts := []) ⟨hx, hb, hml, hown, fun _ z => nomatch z⟩ hMet ⟨⟨rfl, rfl, r1, r2, q2, List.mem_singleton.mpr rfl, q3, hW.at (wis_inv h4) rfl, y1, y2, hW.at (wis_inv h2) rfl⟩, hW.at (wis_inv h3) rfl⟩ ⟨blindU as, preU hW hHw hR hS1 as⟩ rfl hn hsz hst (lv_room hw) hdg hf
  | true =>
    exact va_runSN (Ts := []) ⟨hx, hb, hml, hown, fun _ z => nomatch z⟩ hMet ⟨⟨⟨rfl, rfl, r1, r2, q2, List.mem_singleton.mpr rfl⟩, q3, hW.at (wis_inv h4) rfl, y1, y2, hW.at (wis_inv h2) rfl⟩, hW.at (wis_inv h3) rfl, trivial⟩ ⟨blindU as, preU hW hHw hR hS1 as⟩ rfl hn hsz hst (lv_room hw) hdg hf
/-- a static call of a method with a table -/
theorem cd_staticW {rc : RF} (hS : Snd D dA base b L xs l rc) {d : Nat} {M M' : MI} {pc nx idx na k w1 w2 w3 : Nat} {lv : List (Option Value)} {st rest : List Value} {h h1 h' : AH} {o : RO} {v : Option Value} {as : List Value} (hM : mokb M = true) (hdg : decode (mB M) pc = .ok (.invokestatic idx, 3)) (hnx : nx = pc + 3) (hk : mt[k]? = some M') (hok : cokS (mY M).cls idx false true na k w1 w2 w3 = true) (hn : as.length = na) (hst : st = as.reverse ++ rest)
    (hlen : (as.flatMap ent1).length ≤ mL M') (hw : wsum rest ≤ 8) (hr1 : rc d M' 0 (ent (mL M') as) [] h = some (h1, .inl v)) (hr : rc (d + 1) M nx lv (v.toList ++ rest) h1 = some (h', o)) : Ok D dA base b L xs l (d + 1) M pc lv st h h' o := by
  have hm := List.mem_of_getElem? hk
  simp only [cokS, hk, Option.any_some, Bool.and_eq_true] at hok
  obtain ⟨⟨⟨⟨h1y, h2⟩, h3⟩, h4⟩, h5⟩ := hok
  obtain ⟨y1, y2, y3⟩ := yok_inv h1y
  have hc : cwd M' = .codeWith (mY M') (mB M') (mL M') (mR M') (mH M') := by
    unfold cwd
    cases hz : mH M' with
    | nil => rw [hz] at h5; simp at h5
    | cons q t => rfl
  have hMet := met_of hS hm y3 hlen hr1
  refine cd_fin (as := as) hS hM hnx (hS d M' 0 _ _ h h1 _ (mok_all M' hm) hr1).1 hr fun p e R s m args below meth c H locs cells slots ls cx f1 f2 hR hS1 hsz hf => ?_
  obtain ⟨hx, hb, hml, hown, hW, hHw, hlocks⟩ := cx
  have hw2 := cw_all M' hm
  rw [hc] at hw2 hMet
  obtain ⟨r1, r2⟩ := room_ok f1 f2 (mL_all M' hm)
  exact vx_runSW (Ts := []) ⟨hx, hb, hml, hown, fun _ z => nomatch z⟩ hMet ⟨⟨rfl, rfl, r1, r2, ws_later hW hw2 rfl, List.mem_singleton.mpr rfl⟩, hW.word hw2 rfl, hW.at (wis_inv h4) rfl, y1, y2, hW.at (wis_inv h2) rfl, hW.at (wis_inv h3) rfl⟩ ⟨blindU as, preU hW hHw hR hS1 as⟩ rfl hn hsz hst (lv_room hw) hdg hf
/-- a constructor's call -/
theorem cd_init {rc : RF} (hS : Snd D dA base b L xs l rc) {d : Nat} {M M' : MI} {pc nx idx na k w1 w2 w3 a : Nat} {nest : Bool} {lv : List (Option Value)} {st rest : List Value} {h h1 h' : AH} {o : RO} {v : Option Value} {as : List Value} (hM : mokb M = true) (hdg : decode (mB M) pc = .ok (.invokespecial idx, 3)) (hnx : nx = pc + 3) (hk : mt[k]? = some M') (hok : cokI (mY M).cls idx nest na k w1 w2 w3 = true) (hn : as.length = na) (hst : st = as.reverse ++ .ref a :: rest)
    (hlen : ((.ref a :: as).flatMap ent1).length ≤ mL M') (hw : wsum rest ≤ 8) (hr1 : rc d M' 0 (ent (mL M') (.ref a :: as)) [] h = some (h1, .inl v)) (hr : rc (d + 1) M nx lv (v.toList ++ rest) h1 = some (h', o)) : Ok D dA base b L xs l (d + 1) M pc lv st h h' o := by
  have hm := List.mem_of_getElem? hk
  simp only [cokI, hk, Option.any_some, Bool.and_eq_true, decide_eq_true_eq] at hok
  obtain ⟨⟨⟨⟨⟨⟨h1y, h2⟩, h3⟩, h4⟩, h5⟩, h6⟩, h7⟩ := hok
  obtain ⟨y1, y2, y3⟩ := yok_inv h1y
  have hH : mH M' = [] := by simpa using h5
  have hMet := met_of hS hm y3 hlen hr1
  refine cd_fin (as := .ref a :: as) hS hM hnx (hS d M' 0 _ _ h h1 _ (mok_all M' hm) hr1).1 hr fun p e R s m args below meth c H locs cells slots ls cx f1 f2 hR hS1 hsz hf => ?_
  obtain ⟨hx, hb, hml, hown, hW, hHw, hlocks⟩ := cx
  obtain ⟨q1, q2, q3⟩ := cw_parts (args := args) hm hH hW
  rw [q1] at hMet
  rw [h7] at hMet q2 q3
  obtain ⟨r1, r2⟩ := room_ok f1 f2 (mL_all M' hm)
  cases nest with
  | false =>
    exact va_runI (Ts := []) (As := as) ⟨hx, hb, hml, hown, fun _ z => nomatch z⟩ hMet ⟨⟨rfl, rfl, r1, r2, q2, List.mem_singleton.mpr rfl, q3, hW.at (wis_inv h4) rfl, y1, y2, hW.at (wis_inv h2) rfl⟩, h6, hW.at (wis_inv h3) rfl⟩ ⟨blindU (.ref a :: as), preU hW hHw hR hS1 (.ref a :: as)⟩ rfl hn hsz hst (lv_room hw) hdg hf
  | true =>
    exact va_runIN (Ts := []) (As := as) ⟨hx, hb, hml, hown, fun _ z => nomatch z⟩ hMet ⟨⟨⟨rfl, rfl, r1, r2, q2, List.mem_singleton.mpr rfl⟩, q3, hW.at (wis_inv h4) rfl, y1, y2, hW.at (wis_inv h2) rfl⟩, h6, hW.at (wis_inv h3) rfl⟩ ⟨blindU (.ref a :: as), preU hW hHw hR hS1 (.ref a :: as)⟩ rfl hn hsz hst (lv_room hw) hdg hf
/-- a call on a receiver of the method's own class -/
theorem cd_virt {rc : RF} (hS : Snd D dA base b L xs l rc) {d : Nat} {M M' : MI} {pc nx idx na k ci w1 w2 w3 w4 a : Nat} {fs : List Value} {lv : List (Option Value)} {st rest : List Value} {h h1 h' : AH} {o : RO} {v : Option Value} {as : List Value} (hM : mokb M = true) (hdg : decode (mB M) pc = .ok (.invokevirtual idx, 3)) (hnx : nx = pc + 3) (hk : mt[k]? = some M') (hok : cokV (mY M).cls idx na k ci w1 w2 w3 w4 = true) (ha : h.2.2 a = some (.inr (ci, fs))) (hn : as.length = na) (hst : st = as.reverse ++ .ref a :: rest)
    (hlen : ((.ref a :: as).flatMap ent1).length ≤ mL M') (hw : wsum rest ≤ 8) (hr1 : rc d M' 0 (ent (mL M') (.ref a :: as)) [] h = some (h1, .inl v)) (hr : rc (d + 1) M nx lv (v.toList ++ rest) h1 = some (h', o)) : Ok D dA base b L xs l (d + 1) M pc lv st h h' o := by
  have hm := List.mem_of_getElem? hk
  simp only [cokV, hk, Option.any_some, Bool.and_eq_true] at hok
  obtain ⟨⟨⟨⟨⟨⟨h1y, h2⟩, h3⟩, h4⟩, h5⟩, h6⟩, h7⟩ := hok
  obtain ⟨y1, y2, y3⟩ := yok_inv h1y
  have hH : mH M' = [] := by simpa using h6
  have hMet := met_of hS hm y3 hlen hr1
  refine cd_fin (as := .ref a :: as) hS hM hnx (hS d M' 0 _ _ h h1 _ (mok_all M' hm) hr1).1 hr fun p e R s m args below meth c H locs cells slots ls cx f1 f2 hR hS1 hsz hf => ?_
  obtain ⟨hx, hb, hml, hown, hW, hHw, hlocks⟩ := cx
  obtain ⟨q1, q2, q3⟩ := cw_parts (args := args) hm hH hW
  rw [q1] at hMet
  obtain ⟨r1, r2⟩ := room_ok f1 f2 (mL_all M' hm)
  cases hq : vcl[ci]? with
  | none => rw [hq] at h7; cases h7
  | some q =>
    rw [hq] at h7
    simp only [Option.any_some, decide_eq_true_eq] at h7
    have hrv := recvU hW (hR.2.2 a _ ha).2 hq
    rw [h7] at hrv
    exact va_runV (Ts := []) (As := as) (C := (mY M').cls) ⟨hx, hb, hml, hown, fun _ z => nomatch z⟩ hMet ⟨⟨rfl, rfl, r1, r2, q2, List.mem_singleton.mpr rfl, q3, hW.at (wis_inv h5) rfl, y1, y2, hW.at (wis_inv h2) rfl⟩, hW.at (wis_inv h3) rfl, hW.at (wis_inv h4) rfl⟩ ⟨blindU (.ref a :: as), hrv, preU hW hHw hR hS1 (.ref a :: as)⟩ rfl hn hsz hst (lv_room hw) hdg hf
/-- a call of an abstract method -/
theorem cd_abs {rc : RF} (hS : Snd D dA base b L xs l rc) {d : Nat} {M M' : MI} {pc nx idx na k ci w1 w2 w3 s1 s2 s3 a : Nat} {fs : List Value} {lv : List (Option Value)} {st rest : List Value} {h h1 h' : AH} {o : RO} {v : Option Value} {as : List Value} (hM : mokb M = true) (hdg : decode (mB M) pc = .ok (.invokevirtual idx, 3)) (hnx : nx = pc + 3) (hk : mt[k]? = some M') (hok : cokA (mY M).cls idx na k ci w1 w2 w3 s1 s2 s3 = true) (ha : h.2.2 a = some (.inr (ci, fs))) (hn : as.length = na) (hst : st = as.reverse ++ .ref a :: rest)
    (hlen : ((.ref a :: as).flatMap ent1).length ≤ mL M') (hw : wsum rest ≤ 8) (hr1 : rc d M' 0 (ent (mL M') (.ref a :: as)) [] h = some (h1, .inl v)) (hr : rc (d + 1) M nx lv (v.toList ++ rest) h1 = some (h', o)) : Ok D dA base b L xs l (d + 1) M pc lv st h h' o := by
  have hm := List.mem_of_getElem? hk
  simp only [cokA, hk, Option.any_some, Bool.and_eq_true] at hok
  obtain ⟨⟨⟨⟨⟨⟨⟨⟨h1y, h2⟩, h3⟩, h4⟩, h5⟩, h6⟩, h7⟩, h8⟩, h9⟩ := hok
  obtain ⟨y1, y2, y3⟩ := yok_inv h1y
  have hH : mH M' = [] := by simpa using h8
  have hMet := met_of hS hm y3 hlen hr1
  refine cd_fin (as := .ref a :: as) hS hM hnx (hS d M' 0 _ _ h h1 _ (mok_all M' hm) hr1).1 hr fun p e R s m args below meth c H locs cells slots ls cx f1 f2 hR hS1 hsz hf => ?_
  obtain ⟨hx, hb, hml, hown, hW, hHw, hlocks⟩ := cx
  obtain ⟨q1, q2, q3⟩ := cw_parts (args := args) hm hH hW
  rw [q1] at hMet
  obtain ⟨r1, r2⟩ := room_ok f1 f2 (mL_all M' hm)
  cases hq : vcl[ci]? with
  | none => rw [hq] at h9; cases h9
  | some q =>
    rw [hq] at h9
    simp only [Option.any_some, decide_eq_true_eq] at h9
    have hrv := recvU hW (hR.2.2 a _ ha).2 hq
    rw [h9] at hrv
    exact va_runU (Ts := []) (As := as) (C := (mY M').cls) (owner := "TapeVault$View") (x := ⟨"TapeVault$View", (mY M').name, (mY M').desc⟩) ⟨hx, hb, hml, hown, fun _ z => nomatch z⟩ hMet ⟨⟨rfl, rfl, r1, r2, q2, List.mem_singleton.mpr rfl⟩, q3, hW.at (wis_inv h7) rfl, ⟨by decide, by decide⟩, y2, hW.at (wis_inv h2) rfl, hW.at (wis_inv h3) rfl, va_Decl.abs (hW.at (wis_inv h4) rfl), hW.at (wis_inv h5) rfl, hW.at (wis_inv h6) rfl⟩ ⟨blindU (.ref a :: as), hrv, preU hW hHw hR hS1 (.ref a :: as)⟩ rfl hn hsz hst (lv_room hw) hdg hf
end SndC
end
section
/-! throws, the library's own calls, and the run's soundness -/
section SndX
variable {D : va_G} {dA : FieldType → ClassId} {base b L : Nat} {xs : Nat → Int32} {l : Launch}
/-- what is thrown, behind it -/
def XU (D : va_G) (dA : FieldType → ClassId) (base : Nat) (h1 : AH) (cls : String) : String → State → State → Prop := fun E' st t => E' = cls ∧ Rp D dA base h1 t.heap ∧ va_F (fun q => base ≤ q) st t
theorem xn_fit : ∀ n ∈ xnames, Bundle.fit n = true := by decide +kernel
theorem metx_of (hlt : l.stackTraces = false) {rc : RF} (hS : Snd D dA base b L xs l rc) {d E : Nat} {M : MI} {as : List Value} {h h1 : AH} {cls : String} (hm : M ∈ mt) (hy : plainName (mY M).cls = true) (hH0 : mH M = []) (hE : exn[E]? = some cls) (hlen : (as.flatMap ent1).length ≤ mL M) (hr : rc d M 0 (ent (mL M) as) [] h = some (h1, .inr E)) :
    vx_Met l (mY M) [cwd M] ({ frames := d, cells := h1.1 - h.1, slots := h1.2.1 - h.2.1, locals := 28 * d }) (va_Pc as (PreU D dA base b L xs h)) (fun _ _ _ _ => False) (XU D dA base h1 cls) (h1.1 - h.1) (h1.2.1 - h.2.1) (fun q => base ≤ q) := by
  have hok := mok_all M hm
  obtain ⟨m1, k1⟩ := hS d M 0 _ _ h h1 _ hok hr
  have hc : cwd M = .code (mY M) (mB M) (mL M) (mR M) := by unfold cwd; rw [hH0]
  refine vx_ofW (cc := mB M) (maxL := mL M) (ret := mR M) (ws' := []) hy (by rw [hc]) ?_
  intro p e s m args below meth c s₁ B hml ht hv
  have htab : c.exceptionTable.toList = tableOf (mH M) := by
    rw [hH0]
    exact List.eq_nil_iff_forall_not_mem.mpr ht
  obtain ⟨rfl, hW, hHw, hR⟩ := hv
  rw [lg_entry_eq]
  refine k1 p e _ s m as.toArray below meth c _ h.1 h.2.1 ⟨⟨B.exec, B.bytes, hml, findClass_of_methodNamed B.named, hW, hHw, B.notSynchronized⟩, fun q => ?_, htab, rfl, Nat.le_refl _, ?_, ?_, ?_⟩ s.heap [] 0 0 _ hR va_S.rf (LV.entry hlen) (Nat.zero_add _) (Nat.zero_add _)
  · exact (name_of_methodNamed B.named B.method).1.trans q
  · show h1.1 ≤ h.1 + (h1.1 - h.1)
    omega
  · show h1.2.1 ≤ h.2.1 + (h1.2.1 - h.2.1)
    omega
  · intro h0 H locs cells slots ls pc st ik nx ic w e1 hR1 hS1 hsz hcl hsl hfr hws he
    subst e1
    simp only [eokx, cok, Bool.and_eq_true, decide_eq_true_eq] at he
    obtain ⟨d0, ⟨⟨⟨⟨d3, d4⟩, d7⟩, hth⟩, hown⟩, hk⟩ := he
    rw [hE] at hk
    simp only [Option.any_some] at hk
    have hth2 := List.all_eq_true.mp thl_ok _ hth
    rw [hE] at hth2
    simp only [Bool.and_eq_true, List.all_eq_true, decide_eq_true_eq] at hth2
    obtain ⟨⟨hat, hfit⟩, hini⟩ := hth2
    have hown' : s.vm.findClass (mY M).cls = some m.cls := findClass_of_methodNamed B.named
    rw [hown] at hk hown'
    have z1 : (hskip h0 6).1 = h0.1 + 1 := rfl
    have z2 : (hskip h0 6).2.1 = h0.2.1 + 6 := rfl
    have fr : d = (headSpec [cwd M] ({ frames := d, cells := (hskip h0 6).1 - h.1, slots := (hskip h0 6).2.1 - h.2.1, locals := 28 * d })).room.frames := rfl
    rw [← fr] at hfr
    exact vy_throw0 (own := "TapeVault") (cls := cls) (names := xnames) (ic := ic) (A := fun q => base ≤ q) B.exec B.bytes hlt hown' hfit xn_fit (hW.at (wis_inv hk) rfl) (hW.word hini rfl) (fun w hw => hW.word (hat w hw).1.1 (hat w hw).1.2)
      (fun w hw => by
        rcases List.mem_cons.mp hw with rfl | hw
        · rfl
        rcases List.mem_cons.mp hw with rfl | hw
        · rfl
        exact (hat w hw).2)
      hHw.1 hHw.2.1 hS1 (by rw [hml]; exact hsz) d0 d3 d4 d7 (fun x hx => (ht x hx).elim) (by show 2 + 3 < d; omega) (by show wsum st + (13 * 3 + 42) ≤ 28 * d; omega) (by show cells + 1 ≤ (hskip h0 6).1 - h.1; omega) (by show slots + 6 ≤ (hskip h0 6).2.1 - h.2.1; omega) B.notSynchronized
      (fun t _ hsz1 hq => ⟨rfl, hR1.skip (by rw [hsz1, hR1.1]) (fun q hq1 => hq q (by rw [hR1.1]; exact hq1)), ⟨Nat.le_trans hS1.1 (by rw [hsz1]; omega), fun q q1 q2 => (hq q (Nat.lt_of_lt_of_le q1 hS1.1)).trans (hS1.2.1 q q1 q2)⟩⟩)
      hS1.2.2 (by omega) (by omega)
/-- a callee that throws, caught by the caller's table -/
theorem cd_catch (hlt : l.stackTraces = false) {rc : RF} (hS : Snd D dA base b L xs l rc) {d E : Nat} {M M' : MI} {pc nx idx na k ci w1 w2 w3 w4 a : Nat} {fs : List Value} {lv : List (Option Value)} {st rest : List Value} {h h1 h' : AH} {o : RO} {as : List Value} (hM : mokb M = true) (hdg : decode (mB M) pc = .ok (.invokevirtual idx, 3)) (hnx : nx = pc + 3) (hk : mt[k]? = some M') (hok : cokV (mY M).cls idx na k ci w1 w2 w3 w4 = true) (ha : h.2.2 a = some (.inr (ci, fs))) (hn : as.length = na) (hst : st = as.reverse ++ .ref a :: rest)
    (hlen : ((.ref a :: as).flatMap ent1).length ≤ mL M') (hw : wsum rest ≤ 8) (hr1 : rc d M' 0 (ent (mL M') (.ref a :: as)) [] h = some (h1, .inr E)) (hE4 : E < 4) (hr : ctF rc (d + 1) M pc lv h1 E = some (h', o)) : Ok D dA base b L xs l (d + 1) M pc lv st h h' o := by
  have hm := List.mem_of_getElem? hk
  simp only [cokV, hk, Option.any_some, Bool.and_eq_true] at hok
  obtain ⟨⟨⟨⟨⟨⟨h1y, h2⟩, h3⟩, h4⟩, h5⟩, h6⟩, h7⟩ := hok
  obtain ⟨y1, y2, y3⟩ := yok_inv h1y
  have hH : mH M' = [] := by simpa using h6
  obtain ⟨cls, hE⟩ : ∃ cls, exn[E]? = some cls := ⟨exn[E]'hE4, List.getElem?_eq_getElem hE4⟩
  have hMet := metx_of hlt hS hm y3 hH hE hlen hr1
  have m1 := (hS d M' 0 _ _ h h1 _ (mok_all M' hm) hr1).1
  -- the handler
  have hc : ∃ hp nx2 i ins ri, fh (mH M) pc E = some hp ∧ fet (mE M) hp = some (ins, nx2, ri) ∧ (mY M).cls = "TapeVaultLaw" ∧ i < mL M ∧ ((∃ q : Fin 4, ins = .astore_n q ∧ (q : Nat) = i) ∨ ins = .astore i) ∧ rc (d + 1) M nx2 ((lv1 lv i .null).set i none) [] h1 = some (h', o) := by
    unfold ctF at hr
    split at hr
    · rename_i hcl
      split at hr
      · cases hr
      · rename_i hp hfh
        split at hr
        · rename_i q nx2 ri hfe
          split at hr
          · rename_i hi
            exact ⟨hp, nx2, _, _, ri, hfh, hfe, hcl, hi, Or.inl ⟨q, rfl, rfl⟩, hr⟩
          · cases hr
        · rename_i q nx2 ri hfe
          split at hr
          · rename_i hi
            exact ⟨hp, nx2, _, _, ri, hfh, hfe, hcl, hi, Or.inr rfl, hr⟩
          · cases hr
        · cases hr
    · cases hr
  obtain ⟨hp, nx2, i, ins, ri, hfh, hfe, hcl, hi, hins, hr2⟩ := hc
  obtain ⟨m2, k2⟩ := hS (d + 1) M nx2 _ _ h1 h' o hM hr2
  have hen := List.all_eq_true.mp hM _ (fet_inv hfe)
  have hde : (∃ q : Fin 4, ins = .astore_n q ∧ (q : Nat) = i ∧ decode (mB M) hp = .ok (.astore_n q, 1) ∧ nx2 = hp + 1) ∨ (ins = .astore i ∧ decode (mB M) hp = .ok (.astore i, 2) ∧ nx2 = hp + 2) := by
    rcases hins with ⟨q, rfl, rfl⟩ | rfl
    · have := (eok_of hen (fun _ z => by cases z) (fun _ _ z => by cases z)).1
      simp only [eok, Bool.and_eq_true, decide_eq_true_eq] at this
      simp only [ilen] at this
      exact Or.inl ⟨q, rfl, rfl, this.1.1, this.1.2⟩
    · have := (eok_of hen (fun _ z => by cases z) (fun _ _ z => by cases z)).1
      simp only [eok, Bool.and_eq_true, decide_eq_true_eq] at this
      simp only [ilen] at this
      exact Or.inr ⟨rfl, this.1.1, this.1.2⟩
  refine ⟨⟨Nat.le_trans m1.1 m2.1, Nat.le_trans m1.2 m2.2⟩, fun p e R s m args below meth c Q n0 s0 g => ?_⟩
  intro H locs cells slots ls hR hS1 hL hc hl
  have g5 := g.2.2.2.2.2.1
  have g6 := g.2.2.2.2.2.2.1
  have kk := k2 p e R s m args below meth c Q n0 s0 g
  obtain ⟨⟨hx, hb, hml, hown, hW, hHw, hlocks⟩, hini, htab, f1, f2, -⟩ := g
  obtain ⟨q1, q2, q3⟩ := cw_parts (args := args) hm hH hW
  rw [q1] at hMet
  obtain ⟨r1, r2⟩ := room_ok f1 f2 (mL_all M' hm)
  cases hq : vcl[ci]? with
  | none => rw [hq] at h7; cases h7
  | some q =>
    rw [hq] at h7
    simp only [Option.any_some, decide_eq_true_eq] at h7
    have hrv := recvU hW (hR.2.2 a _ ha).2 hq
    rw [h7] at hrv
    have run := vx_runV (Ts := []) (As := as) (C := (mY M').cls) (H := H) (locs := locs) (cells := cells) (slots := slots) (g := F0 m pc ls st) (rest := rest) (e := e) (below := below) (meth := meth) ⟨hx, hb, hml, hown, fun _ z => nomatch z⟩ hMet ⟨⟨rfl, rfl, r1, r2, q2, List.mem_singleton.mpr rfl, q3, hW.at (wis_inv h5) rfl, y1, y2, hW.at (wis_inv h2) rfl⟩, hW.at (wis_inv h3) rfl, hW.at (wis_inv h4) rfl⟩ ⟨blindU (.ref a :: as), hrv, preU hW hHw hR hS1 (.ref a :: as)⟩ rfl hn hL.2.1 hst (lv_room hw) hdg ⟨by omega, by omega⟩
    intro T hT X
    rcases run T hT X with ⟨v, st₀, t, T', L', e0, X', e1, e2, e3, hF, e4⟩ | ⟨x, st₀, t, T', L', E', ce, h0, X', hL', g1, g2, ⟨hE', gR, gF⟩, hce, hcv, hcl', stp'⟩
    · exact hF.elim
    · subst hE'
      obtain ⟨k1, k2', k3⟩ := vx_keep (A0 := fun q => base ≤ q) (A1 := fun q => base ≤ q) (free := fun q => base ≤ q) h0 g1 hS1 (fun _ _ z => z) (fun _ z => z) hL' gF
      have hown2 := hown
      rw [hcl] at hown2
      obtain ⟨ls', es, hLs⟩ := hL.set1 (v := .ref x) hi rfl
      have hLs' : LV ls' (mL M) ((lv1 lv i .null).set i none) := by
        have := hLs.forget i
        rwa [lv1_forget (w := .null)] at this
      have fin : W p l e R s m args below meth c T'.heap (locs ++ L') (cells + (h1.1 - h.1)) (slots + (h1.2.1 - h.2.1)) Q (F0 m hp ls [.ref x]) := by
        have last := kk T'.heap (locs ++ L') (cells + (h1.1 - h.1)) (slots + (h1.2.1 - h.2.1)) ls' (by rw [g1]; exact gR) k3 hLs' (by omega) (by omega)
        rcases hde with ⟨q, -, rfl, hd, rfl⟩ | ⟨-, hd, rfl⟩
        · exact rw_astore_n (x := some x) hx hb hd es last
        · exact rw_astore (x := some x) hx hb hd es last
      obtain ⟨t2, a1, b1⟩ := cy_catch (rest := rest) hW hown2 htab hE (by rw [g1]; exact hce) hcv hcl' hfh fin T' rfl X'
      exact ⟨t2, stp'.trans a1, b1⟩
/-- Object's constructor -/
theorem ca_obj {rc : RF} (hS : Snd D dA base b L xs l rc) {d : Nat} {M : MI} {pc nx idx w1 w2 w3 a : Nat} {lv : List (Option Value)} {rest : List Value} {h h' : AH} {o : RO} (hM : mokb M = true) (hdg : decode (mB M) pc = .ok (.invokespecial idx, 3)) (hnx : nx = pc + 3) (h1 : wis w1 (.methodLink (mY M).cls idx objectInit) = true) (h2 : wis w2 (.instanceMethod objectInit) = true) (h3 : wis w3 (.code objectInit ⟨#[0xb1]⟩ 1 none) = true)
    (hd : 1 ≤ d) (hw : wsum rest ≤ 8) (hr : rc d M nx lv rest h = some (h', o)) : Ok D dA base b L xs l d M pc lv (.ref a :: rest) h h' o := by
  obtain ⟨m1, k1⟩ := hS d M nx lv rest h h' o hM hr
  refine ⟨m1, fun p e R s m args below meth c Q n0 s0 g => ?_⟩
  intro H locs cells slots ls hR hS1 hL hc hl
  have kk := k1 p e R s m args below meth c Q n0 s0 g H locs cells slots ls hR hS1 hL hc hl
  obtain ⟨⟨hx, hb, hml, hown, hW, hHw, hlocks⟩, hini, htab, f1, f2, -⟩ := g
  subst hnx
  exact W.objInit hx hb hown (hW.at (wis_inv h1) rfl) (hW.at (wis_inv h2) rfl) (hW.at (wis_inv h3) rfl) rfl (by rw [hml]; exact hL.2.1) rfl hdg (by omega) (by show 2 * 0 + wsum rest + 12 ≤ R.locals; omega) kk
theorem ca_max {rc : RF} (hS : Snd D dA base b L xs l rc) {d : Nat} {M : MI} {pc nx idx w1 w2 w3 w4 : Nat} {lv : List (Option Value)} {rest : List Value} {h h' : AH} {o : RO} {x y : Int32} (hM : mokb M = true) (hdg : decode (mB M) pc = .ok (.invokestatic idx, 3)) (hnx : nx = pc + 3) (h1 : wis w1 (.methodLink (mY M).cls idx Lib.Math.max.name) = true) (h2 : wis w2 (.static Lib.Math.max.name) = true) (h3 : wis w3 (.initialized "java/lang/Math") = true) (h4 : wis w4 (.code Lib.Math.max.name Lib.Math.max.code 2 (some .int)) = true)
    (hd : 1 ≤ d) (hw : wsum rest ≤ 8) (hr : rc d M nx lv (.int (if x < y then y else x) :: rest) h = some (h', o)) : Ok D dA base b L xs l d M pc lv (.int y :: .int x :: rest) h h' o := by
  obtain ⟨m1, k1⟩ := hS d M nx lv _ h h' o hM hr
  refine ⟨m1, fun p e R s m args below meth c Q n0 s0 g => ?_⟩
  intro H locs cells slots ls hR hS1 hL hc hl
  have kk := k1 p e R s m args below meth c Q n0 s0 g H locs cells slots ls hR hS1 hL hc hl
  have g5 := g.2.2.2.2.2.1
  have g6 := g.2.2.2.2.2.2.1
  obtain ⟨⟨hx, hb, hml, hown, hW, hHw, hlocks⟩, hini, htab, f1, f2, -⟩ := g
  subst hnx
  exact va_mmax hx hb (by rw [hml]; exact hL.2.1.symm) hown (hW.at (wis_inv h1) rfl) (hW.at (wis_inv h2) rfl) (hW.at (wis_inv h3) rfl) (hW.at (wis_inv h4) rfl) (by omega) (by show wsum rest + 13 ≤ R.locals; omega) (by omega) (by omega) hdg kk
theorem ca_min {rc : RF} (hS : Snd D dA base b L xs l rc) {d : Nat} {M : MI} {pc nx idx w1 w2 w3 w4 : Nat} {lv : List (Option Value)} {rest : List Value} {h h' : AH} {o : RO} {x y : Int32} (hM : mokb M = true) (hdg : decode (mB M) pc = .ok (.invokestatic idx, 3)) (hnx : nx = pc + 3) (h1 : wis w1 (.methodLink (mY M).cls idx Lib.Math.min.name) = true) (h2 : wis w2 (.static Lib.Math.min.name) = true) (h3 : wis w3 (.initialized "java/lang/Math") = true) (h4 : wis w4 (.code Lib.Math.min.name Lib.Math.min.code 2 (some .int)) = true)
    (hd : 1 ≤ d) (hw : wsum rest ≤ 8) (hr : rc d M nx lv (.int (if y < x then y else x) :: rest) h = some (h', o)) : Ok D dA base b L xs l d M pc lv (.int y :: .int x :: rest) h h' o := by
  obtain ⟨m1, k1⟩ := hS d M nx lv _ h h' o hM hr
  refine ⟨m1, fun p e R s m args below meth c Q n0 s0 g => ?_⟩
  intro H locs cells slots ls hR hS1 hL hc hl
  have kk := k1 p e R s m args below meth c Q n0 s0 g H locs cells slots ls hR hS1 hL hc hl
  have g5 := g.2.2.2.2.2.1
  have g6 := g.2.2.2.2.2.2.1
  obtain ⟨⟨hx, hb, hml, hown, hW, hHw, hlocks⟩, hini, htab, f1, f2, -⟩ := g
  subst hnx
  exact va_mmin hx hb (by rw [hml]; exact hL.2.1.symm) hown (hW.at (wis_inv h1) rfl) (hW.at (wis_inv h2) rfl) (hW.at (wis_inv h3) rfl) (hW.at (wis_inv h4) rfl) (by omega) (by show wsum rest + 13 ≤ R.locals; omega) (by omega) (by omega) hdg kk
end SndX
end
section
/-! arraycopy; then the run as a whole -/
section SndY
variable {D : va_G} {dA : FieldType → ClassId} {base b L : Nat} {xs : Nat → Int32} {l : Launch}
theorem cpy_words : Cond.native arraycopyName ∈ lw_tbl ∧ Cond.static arraycopyName ∈ lw_tbl ∧ Cond.initialized "java/lang/System" ∈ lw_tbl := by decide +kernel
theorem rw_cpy {own : String} {cc : ByteArray} {p : Program} {e : Env} {R : Room} {s : State} {m : MethodId} {args : Array Value} {below : List Frame} {meth : Method} {c : Code} {Q : State → Prop} {H : Heap} {locs : List Loc} {cells slots pc : Nat} {ls : Array Slot} {rest : List Value} {h : AH}
    (hexec : p.tables.exec = Jvm.exec) (hb : c.code = cc) (hml : c.maxLocals = ls.size) (hW : Wd D dA s) (hown : s.vm.findClass own = some m.cls) {idx w1 a a0 n0 n1 : Nat} {ty : FieldType} {f g : Nat → Value} {sp dp n : Int32} (hl1 : lw_tbl[w1]? = some (.methodLink own idx arraycopyName)) (hR : Rp D dA base h H) (hS : va_S (fun q => base ≤ q) s.heap H locs)
    (ha0 : h.2.2 a0 = some (.inl (ty, n0, f))) (ha : h.2.2 a = some (.inl (ty, n1, g))) (hprim : refKind ty = false) (h1 : ¬ sp < 0) (h2 : ¬ dp < 0) (h3 : ¬ n < 0) (h4 : sp.toNatClampNeg + n.toNatClampNeg ≤ n0) (h5 : dp.toNatClampNeg + n.toNatClampNeg ≤ n1) (hfit : ∀ i, i < n.toNatClampNeg → fits ty (f (sp.toNatClampNeg + i)) = true)
    (hframes : 1 ≤ R.frames) (hlocals : wsum rest + 18 ≤ R.locals) (hdg : decode cc pc = .ok (.invokestatic idx, 3))
    (kk : ∀ (H1 : Heap) (locs1 : List Loc), Rp D dA base (hput h a (.inl (ty, n1, va_cpy f g sp.toNatClampNeg dp.toNatClampNeg n.toNatClampNeg))) H1 → va_S (fun q => base ≤ q) s.heap H1 locs1 → W p l e R s m args below meth c H1 locs1 cells slots Q (F0 m (pc + 3) ls rest)) : W p l e R s m args below meth c H locs cells slots Q (F0 m pc ls (.int n :: .int dp :: .ref a :: .int sp :: .ref a0 :: rest)) := by
  have nn : ∀ z : Int32, ¬ z < 0 → z.toInt = (z.toNatClampNeg : Int) := by
    intro z hz
    have hz0 : (0 : Int) ≤ z.toInt := by
      have := Int32.not_lt.mp hz
      simpa using Int32.le_iff_toInt_le.mp this
    show z.toInt = ((z.toInt.toNat : Nat) : Int)
    omega
  obtain ⟨hb0, ht0, hc0⟩ := hR.2.2 a0 _ ha0
  obtain ⟨hba, ht1, hc1⟩ := hR.2.2 a _ ha
  intro T hT X
  obtain ⟨-, k0, hk0, cm0, hkk0⟩ := (hW.2.2.1 ty ht0).1 n0 f
  obtain ⟨-, k1, hk1, cm1, hkk1⟩ := (hW.2.2.1 ty ht1).1 n1 g
  obtain ⟨vm', X', step⟩ := X.arraycopy hexec hown (hW.at hl1 rfl) (hW.word cpy_words.1 rfl) (hW.word cpy_words.2.1 rfl) (hW.word cpy_words.2.2 rfl) (src := a0) (dst := a) (cs := arrV (dA ty) n0 f) (cd := arrV (dA ty) n1 g) (srcPos := sp) (destPos := dp) (n := n) (by rw [hT]; exact hc0) (by rw [hT]; exact hc1)
    (fun _ h => by cases h) (fun _ h => by cases h) (fun h => by cases h) (fun h => by cases h) hk0 hk1 hkk0 hkk1 (by simp [hprim]) h1 h2 h3
    (by rw [nn sp h1, nn n h3, arrV_size]; omega)
    (by rw [nn dp h2, nn n h3, arrV_size]; omega)
    (fun vm₁ _ i hi => by
      have e : (arrV (dA ty) n0 f).slots.getD (sp.toNatClampNeg + i) .null = f (sp.toNatClampNeg + i) := by
        rw [Array.getD_eq_getD_getElem?, arrV_read _ _ (by omega)]
        rfl
      have hf := hfit i hi
      rw [e]
      refine ⟨hf, ?_⟩
      cases hv : f (sp.toNatClampNeg + i) <;> rw [hv] at hf <;> first | trivial | (cases ty <;> first | (simp [refKind] at hprim; done) | (simp [fits] at hf; done)))
    (g := F0 m pc ls (.int n :: .int dp :: .ref a :: .int sp :: .ref a0 :: rest)) rfl (by rw [hml]) (rest := rest) rfl (by rw [hb]; exact hdg) hframes (by show 2 * 0 + wsum rest + (7 + 11) ≤ _; omega)
  have e1 : copied (arrV (dA ty) n0 f) (arrV (dA ty) n1 g) sp dp n = arrV (dA ty) n1 (va_cpy f g sp.toNatClampNeg dp.toNatClampNeg n.toNatClampNeg) := va_copied (fun z => z) (dA ty) (dA ty) f g h4
  rw [e1] at X' step
  have hl : a < H.size := (Array.getElem?_eq_some_iff.mp hc1).1
  have hheap : ((T.setVm vm').setCell a (arrV (dA ty) n1 (va_cpy f g sp.toNatClampNeg dp.toNatClampNeg n.toNatClampNeg))).heap = H.setIfInBounds a (arrV (dA ty) n1 (va_cpy f g sp.toNatClampNeg dp.toNatClampNeg n.toNatClampNeg)) := by rw [← hT]; rfl
  have oq : ∀ q : Nat, q ≠ a → (H.setIfInBounds a (arrV (dA ty) n1 (va_cpy f g sp.toNatClampNeg dp.toNatClampNeg n.toNatClampNeg)))[q]? = H[q]? := fun q hq => by simp [Array.getElem?_setIfInBounds, Ne.symm hq]
  have hz : (H.setIfInBounds a (arrV (dA ty) n1 (va_cpy f g sp.toNatClampNeg dp.toNatClampNeg n.toNatClampNeg))).size = H.size := by simp
  obtain ⟨t, a1, b1⟩ := kk _ _ (hR.put hba ⟨ht1, by simp [Array.getElem?_setIfInBounds, hl]⟩ hz oq) ⟨by rw [hz]; exact hS.1, fun q g1 g2 => by
      rw [oq q (fun e => g2 (by rw [e]; exact hba))]
      exact hS.2.1 q g1 g2, fun q hq => by
      rcases List.mem_append.mp hq with h | h
      · exact hS.2.2 q h
      · obtain ⟨z, -, hz⟩ := List.mem_map.mp h
        rw [← hz]
        exact hba⟩ _ hheap X'
  exact ⟨t, step t a1, b1⟩
theorem ca_cpy {rc : RF} (hS : Snd D dA base b L xs l rc) {d : Nat} {M : MI} {pc nx idx w1 : Nat} {lv : List (Option Value)} {st : List Value} {h h' : AH} {o : RO} {z : List Value × AH} (hM : mokb M = true) (hdg : decode (mB M) pc = .ok (.invokestatic idx, 3)) (hnx : nx = pc + 3) (h1 : wis w1 (.methodLink (mY M).cls idx arraycopyName) = true) (hz : acq st h = some z)
    (hd : 2 ≤ d) (hw : wsum z.1 ≤ 8) (hr : rc d M nx lv z.1 z.2 = some (h', o)) : Ok D dA base b L xs l d M pc lv st h h' o := by
  unfold acq at hz
  split at hz
  · split at hz
    · rename_i n dp a sp a0 r t0 n0 f t1 n1 g ha0 ha
      split at hz
      · rename_i hc
        obtain ⟨rfl, ht, c1, c2, c3, c4, c5, c6⟩ := hc
        cases hz
        dsimp only at hw hr
        obtain ⟨m1, k1⟩ := hS d M nx lv _ _ h' o hM hr
        refine ⟨m1, fun p e R s m args below meth c Q n0 s0 g' => ?_⟩
        intro H locs cells slots ls hR hS1 hL hc hl
        have kk := k1 p e R s m args below meth c Q n0 s0 g'
        obtain ⟨⟨hx, hb, hml, hown, hW, hHw, hlocks⟩, hini, htab, f1, f2, -⟩ := g'
        subst hnx
        exact rw_cpy hx hb (by rw [hml]; exact hL.2.1.symm) hW hown (wis_inv h1) hR hS1 ha0 ha (by rcases ht with rfl | rfl <;> rfl) c1 c2 c3 c4 c5 c6 (by omega) (by omega) hdg (fun H1 locs1 hR1 hS2 => kk H1 locs1 cells slots ls hR1 hS2 hL hc hl)
      · cases hz
    · cases hz
  · cases hz
/-- what a call of the tables' methods came to -/
theorem cd_inv {rc : RF} {d : Nat} {M : MI} {pc nx kd na k : Nat} {t : List Nat} {lv : List (Option Value)} {st : List Value} {h h' : AH} {o : RO} (hr : cdF rc d M pc nx kd na k t lv st h = some (h', o)) :
    ∃ d' as r0 k' rv r M', d = d' + 1 ∧ as.length = na ∧ st = as.reverse ++ r0 ∧ tgtM kd k t r0 h = some (k', rv, r) ∧ mt[k']? = some M' ∧ ((rv ++ as).flatMap ent1).length ≤ mL M' ∧ wsum r ≤ 8 ∧
      ((∃ h1 v, rc d' M' 0 (ent (mL M') (rv ++ as)) [] h = some (h1, .inl v) ∧ rc (d' + 1) M nx lv (v.toList ++ r) h1 = some (h', o)) ∨ (∃ h1 E, rc d' M' 0 (ent (mL M') (rv ++ as)) [] h = some (h1, .inr E) ∧ kd = 9 ∧ ctF rc (d' + 1) M pc lv h1 E = some (h', o))) := by
  unfold cdF at hr
  split at hr
  · cases hr
  · rename_i d'
    cases hp : popN na st with
    | none => rw [hp] at hr; cases hr
    | some z =>
      rw [hp] at hr
      obtain ⟨p1, p2⟩ := popN_inv hp
      cases ht : tgtM kd k t z.2 h with
      | none => simp only [ht] at hr; cases hr
      | some y =>
        obtain ⟨k', rv, r⟩ := y
        simp only [ht] at hr
        cases hm : mt[k']? with
        | none => simp only [hm] at hr; cases hr
        | some M' =>
          simp only [hm] at hr
          split at hr
          · rename_i hc
            refine ⟨d', z.1, z.2, k', rv, r, M', rfl, p1, p2, ht, hm, hc.1, hc.2, ?_⟩
            cases hi : rc d' M' 0 (ent (mL M') (rv ++ z.1)) [] h with
            | none => rw [hi] at hr; cases hr
            | some q =>
              obtain ⟨h1, v | E⟩ := q
              · rw [hi] at hr
                exact Or.inl ⟨h1, v, rfl, hr⟩
              · rw [hi] at hr
                dsimp only at hr
                split at hr
                · exact Or.inr ⟨h1, E, rfl, by assumption, hr⟩
                · cases hr
          · cases hr
end SndY
end
section
/-! the run is the machine's -/
section SndZ
variable {D : va_G} {dA : FieldType → ClassId} {base b L : Nat} {xs : Nat → Int32} {l : Launch}
theorem hcl_lt : ∀ q ∈ hcl, q.2 < 4 := by decide
theorem fh_lt : ∀ {hh : List (Nat × Nat × Nat × Nat)} {pc E hp : Nat}, fh hh pc E = some hp → E < 4
  | [], _, _, _, h => by cases h
  | q :: t, pc, E, hp, h => by
    unfold fh at h
    split at h
    · split at h
      · rename_i F hF
        split at h
        · rename_i e
          subst e
          exact hcl_lt _ (lookup_mem hF)
        · exact fh_lt h
      · cases h
    · exact fh_lt h
theorem ct_lt {rc : RF} {d : Nat} {M : MI} {pc E : Nat} {lv : List (Option Value)} {h : AH} {z : AH × RO} (hr : ctF rc d M pc lv h E = some z) : E < 4 := by
  unfold ctF at hr
  split at hr
  · cases hf : fh (mH M) pc E with
    | none => rw [hf] at hr; cases hr
    | some hp => exact fh_lt hf
  · cases hr
theorem inv_dec {M : MI} {pc nx : Nat} {ins : Instr} {ri : List Nat} (h : eok (mY M).cls (mB M) (decide ((mY M).name = "<init>")) (pc, ins, nx, ri) = true) (hins : (∃ i, ins = .invokestatic i) ∨ (∃ i, ins = .invokespecial i) ∨ ∃ i, ins = .invokevirtual i) : decode (mB M) pc = .ok (ins, 3) ∧ nx = pc + 3 := by
  rcases hins with ⟨i, rfl⟩ | ⟨i, rfl⟩ | ⟨i, rfl⟩
  all_goals
    simp only [eok, Bool.and_eq_true, decide_eq_true_eq] at h
    simp only [ilen] at h
    exact h.1
theorem caF_10 {rc : RF} {d : Nat} {M : MI} {pc nx : Nat} {t : List Nat} {lv : List (Option Value)} {st : List Value} {h : AH} : caF rc d M pc nx (10 :: t) lv st h = (match st with
    | .ref _ :: r => if 1 ≤ d ∧ wsum r ≤ 8 then rc d M nx lv r h else none
    | _ => none) := rfl
theorem caF_7 {rc : RF} {d : Nat} {M : MI} {pc nx : Nat} {t : List Nat} {lv : List (Option Value)} {st : List Value} {h : AH} : caF rc d M pc nx (7 :: t) lv st h = (match acq st h with
    | some z => if 2 ≤ d ∧ wsum z.1 ≤ 8 then rc d M nx lv z.1 z.2 else none
    | none => none) := rfl
theorem caF_11 {rc : RF} {d : Nat} {M : MI} {pc nx : Nat} {t : List Nat} {lv : List (Option Value)} {st : List Value} {h : AH} : caF rc d M pc nx (11 :: t) lv st h = (match st with
    | .int y :: .int x :: r => if 1 ≤ d ∧ wsum r ≤ 8 then rc d M nx lv (.int (if x < y then y else x) :: r) h else none
    | _ => none) := rfl
theorem caF_12 {rc : RF} {d : Nat} {M : MI} {pc nx : Nat} {t : List Nat} {lv : List (Option Value)} {st : List Value} {h : AH} : caF rc d M pc nx (12 :: t) lv st h = (match st with
    | .int y :: .int x :: r => if 1 ≤ d ∧ wsum r ≤ 8 then rc d M nx lv (.int (if y < x then y else x) :: r) h else none
    | _ => none) := rfl
theorem tgtM_4 {k : Nat} {t : List Nat} {r : List Value} {h : AH} : tgtM 4 k t r h = (match r with
    | .ref a :: r => some (k, [.ref a], r)
    | _ => none) := rfl
theorem tgtM_5 {k : Nat} {t : List Nat} {r : List Value} {h : AH} : tgtM 5 k t r h = (match r with
    | .ref a :: r => some (k, [.ref a], r)
    | _ => none) := rfl
theorem tgtM_2 {k ci : Nat} {t : List Nat} {r : List Value} {h : AH} : tgtM 2 k (ci :: t) r h = (match r with
    | .ref a :: r => match h.2.2 a with
      | some (.inr (cj, _)) => if cj = ci then some (k, [.ref a], r) else none
      | _ => none
    | _ => none) := by cases r with | nil => rfl | cons v r => cases v <;> rfl
theorem tgtM_9 {k ci : Nat} {t : List Nat} {r : List Value} {h : AH} : tgtM 9 k (ci :: t) r h = (match r with
    | .ref a :: r => match h.2.2 a with
      | some (.inr (cj, _)) => if cj = ci then some (k, [.ref a], r) else none
      | _ => none
    | _ => none) := by cases r with | nil => rfl | cons v r => cases v <;> rfl
theorem tgtM_6 {k k2 : Nat} {t : List Nat} {r : List Value} {h : AH} : tgtM 6 k (k2 :: t) r h = (match r with
    | .ref a :: r => match h.2.2 a with
      | some (.inr (1, _)) => some (k, [.ref a], r)
      | some (.inr (4, _)) => some (k2, [.ref a], r)
      | _ => none
    | _ => none) := by cases r with | nil => rfl | cons v r => cases v <;> rfl
theorem ca_st {rc : RF} (hS : Snd D dA base b L xs l rc) {d : Nat} {M : MI} {pc nx idx : Nat} {ri : List Nat} {lv : List (Option Value)} {st : List Value} {h h' : AH} {o : RO} (hM : mokb M = true) (he : eokx M (pc, .invokestatic idx, nx, ri) = true) (hr : caF rc d M pc nx ri lv st h = some (h', o)) : Ok D dA base b L xs l d M pc lv st h h' o := by
  obtain ⟨h1, h2⟩ := eok_of he (fun _ z => by cases z) (fun _ _ z => by cases z)
  obtain ⟨hdg, hnx⟩ := inv_dec h1 (Or.inl ⟨_, rfl⟩)
  unfold cok at h2
  split at h2
  · rename_i idx' na k w1 w2 w3 w4 e1 e2
    cases e1
    have e2 : ri = [0, na, k, w1, w2, w3, w4] := e2
    subst e2
    have hr : cdF rc d M pc nx 0 na k [w1, w2, w3, w4] lv st h = some (h', o) := hr
    obtain ⟨d', as, r0, k', rv, r, M', rfl, hn, hst, ht, hm, hlen, hw, hc⟩ := cd_inv hr
    cases ht
    rcases hc with ⟨h9, v, c1, c2⟩ | ⟨_, _, _, c3, _⟩
    · exact cd_static hS hM hdg hnx hm h2 hn hst hlen hw c1 c2
    · cases c3
  · rename_i idx' na k w1 w2 w3 w4 e1 e2
    cases e1
    have e2 : ri = [1, na, k, w1, w2, w3, w4] := e2
    subst e2
    have hr : cdF rc d M pc nx 1 na k [w1, w2, w3, w4] lv st h = some (h', o) := hr
    obtain ⟨d', as, r0, k', rv, r, M', rfl, hn, hst, ht, hm, hlen, hw, hc⟩ := cd_inv hr
    cases ht
    rcases hc with ⟨h9, v, c1, c2⟩ | ⟨_, _, _, c3, _⟩
    · exact cd_static hS hM hdg hnx hm h2 hn hst hlen hw c1 c2
    · cases c3
  · rename_i idx' na k w1 w2 w3 w4 e1 e2
    cases e1
    have e2 : ri = [8, na, k, w1, w2, w3, w4] := e2
    subst e2
    have hr : cdF rc d M pc nx 8 na k [w1, w2, w3, w4] lv st h = some (h', o) := hr
    obtain ⟨d', as, r0, k', rv, r, M', rfl, hn, hst, ht, hm, hlen, hw, hc⟩ := cd_inv hr
    cases ht
    rcases hc with ⟨h9, v, c1, c2⟩ | ⟨_, _, _, c3, _⟩
    · exact cd_staticW hS hM hdg hnx hm h2 hn hst hlen hw c1 c2
    · cases c3
  · rename_i idx' w1 e1 e2
    cases e1
    have e2 : ri = [7, w1] := e2
    subst e2
    rw [caF_7] at hr
    cases hz : acq st h with
    | none => rw [hz] at hr; cases hr
    | some z =>
      rw [hz] at hr
      try dsimp only at hr
      split at hr
      · rename_i hc
        exact ca_cpy hS hM hdg hnx h2 hz hc.1 hc.2 hr
      · cases hr
  · rename_i idx' w1 w2 w3 w4 e1 e2
    cases e1
    have e2 : ri = [11, w1, w2, w3, w4] := e2
    subst e2
    simp only [Bool.and_eq_true] at h2
    rw [caF_11] at hr
    split at hr
    · split at hr
      · rename_i hc
        exact ca_max hS hM hdg hnx h2.1.1.1 h2.1.1.2 h2.1.2 h2.2 hc.1 hc.2 hr
      · cases hr
    · cases hr
  · rename_i idx' w1 w2 w3 w4 e1 e2
    cases e1
    have e2 : ri = [12, w1, w2, w3, w4] := e2
    subst e2
    simp only [Bool.and_eq_true] at h2
    rw [caF_12] at hr
    split at hr
    · split at hr
      · rename_i hc
        exact ca_min hS hM hdg hnx h2.1.1.1 h2.1.1.2 h2.1.2 h2.2 hc.1 hc.2 hr
      · cases hr
    · cases hr
  all_goals first | (exfalso; simp_all; done) | (cases h2; done)
theorem ca_sp {rc : RF} (hS : Snd D dA base b L xs l rc) {d : Nat} {M : MI} {pc nx idx : Nat} {ri : List Nat} {lv : List (Option Value)} {st : List Value} {h h' : AH} {o : RO} (hM : mokb M = true) (he : eokx M (pc, .invokespecial idx, nx, ri) = true) (hr : caF rc d M pc nx ri lv st h = some (h', o)) : Ok D dA base b L xs l d M pc lv st h h' o := by
  obtain ⟨h1, h2⟩ := eok_of he (fun _ z => by cases z) (fun _ _ z => by cases z)
  obtain ⟨hdg, hnx⟩ := inv_dec h1 (Or.inr (Or.inl ⟨_, rfl⟩))
  have go : ∀ (nest : Bool) (kd na k w1 w2 w3 w4 : Nat), (kd = 4 ∨ kd = 5) → cokI (mY M).cls idx nest na k w1 w2 w3 = true → cdF rc d M pc nx kd na k [w1, w2, w3, w4] lv st h = some (h', o) → Ok D dA base b L xs l d M pc lv st h h' o := by
    intro nest kd na k w1 w2 w3 w4 hk h2 hr
    obtain ⟨d', as, r0, k', rv, r, M', rfl, hn, hst, ht, hm, hlen, hw, hc⟩ := cd_inv hr
    have ht2 : ∃ a, r0 = .ref a :: r ∧ k' = k ∧ rv = [.ref a] := by
      rcases hk with rfl | rfl
      · rw [tgtM_4] at ht
        split at ht
        · cases ht; exact ⟨_, rfl, rfl, rfl⟩
        · cases ht
      · rw [tgtM_5] at ht
        split at ht
        · cases ht; exact ⟨_, rfl, rfl, rfl⟩
        · cases ht
    obtain ⟨a, rfl, rfl, rfl⟩ := ht2
    rcases hc with ⟨h9, v, c1, c2⟩ | ⟨_, _, _, c3, _⟩
    · exact cd_init hS hM hdg hnx hm h2 hn hst hlen hw c1 c2
    · rcases hk with rfl | rfl <;> cases c3
  unfold cok at h2
  split at h2
  all_goals try (exfalso; rename_i e1 _; cases e1; done)
  · rename_i idx' na k w1 w2 w3 w4 e1 e2
    cases e1
    have e2 : ri = [4, na, k, w1, w2, w3, w4] := e2
    subst e2
    exact go false 4 na k w1 w2 w3 w4 (Or.inl rfl) h2 hr
  · rename_i idx' na k w1 w2 w3 w4 e1 e2
    cases e1
    have e2 : ri = [5, na, k, w1, w2, w3, w4] := e2
    subst e2
    exact go true 5 na k w1 w2 w3 w4 (Or.inr rfl) h2 hr
  · rename_i idx' w1 w2 w3 e1 e2
    cases e1
    have e2 : ri = [10, w1, w2, w3] := e2
    subst e2
    simp only [Bool.and_eq_true] at h2
    rw [caF_10] at hr
    split at hr
    · split at hr
      · rename_i hc
        exact ca_obj hS hM hdg hnx h2.1.1 h2.1.2 h2.2 hc.1 hc.2 hr
      · cases hr
    · cases hr
  all_goals first | (exfalso; simp_all; done) | (cases h2; done)
end SndZ
end
section
/-! virtual calls, the dispatch, the induction -/
section SndW
variable {D : va_G} {dA : FieldType → ClassId} {base b L : Nat} {xs : Nat → Int32} {l : Launch}
theorem ca_vi (hlt : l.stackTraces = false) {rc : RF} (hS : Snd D dA base b L xs l rc) {d : Nat} {M : MI} {pc nx idx : Nat} {ri : List Nat} {lv : List (Option Value)} {st : List Value} {h h' : AH} {o : RO} (hM : mokb M = true) (he : eokx M (pc, .invokevirtual idx, nx, ri) = true) (hr : caF rc d M pc nx ri lv st h = some (h', o)) : Ok D dA base b L xs l d M pc lv st h h' o := by
  obtain ⟨h1, h2⟩ := eok_of he (fun _ z => by cases z) (fun _ _ z => by cases z)
  obtain ⟨hdg, hnx⟩ := inv_dec h1 (Or.inr (Or.inr ⟨_, rfl⟩))
  have go : ∀ (kd na k ci w1 w2 w3 w4 w5 : Nat), (kd = 2 ∨ kd = 9) → cokV (mY M).cls idx na k ci w1 w2 w3 w4 = true → cdF rc d M pc nx kd na k [ci, w1, w2, w3, w4, w5] lv st h = some (h', o) → Ok D dA base b L xs l d M pc lv st h h' o := by
    intro kd na k ci w1 w2 w3 w4 w5 hk h2 hr
    obtain ⟨d', as, r0, k', rv, r, M', rfl, hn, hst, ht, hm, hlen, hw, hc⟩ := cd_inv hr
    have ht2 : ∃ a fs, r0 = .ref a :: r ∧ k' = k ∧ rv = [.ref a] ∧ h.2.2 a = some (.inr (ci, fs)) := by
      rcases hk with rfl | rfl
      · rw [tgtM_2] at ht
        split at ht
        · rename_i a r'
          split at ht
          · rename_i cj fs ha
            split at ht
            · rename_i hcj
              subst hcj
              cases ht
              exact ⟨a, fs, rfl, rfl, rfl, ha⟩
            · cases ht
          · cases ht
        · cases ht
      · rw [tgtM_9] at ht
        split at ht
        · rename_i a r'
          split at ht
          · rename_i cj fs ha
            split at ht
            · rename_i hcj
              subst hcj
              cases ht
              exact ⟨a, fs, rfl, rfl, rfl, ha⟩
            · cases ht
          · cases ht
        · cases ht
    obtain ⟨a, fs, rfl, rfl, rfl, ha⟩ := ht2
    rcases hc with ⟨h9, v, c1, c2⟩ | ⟨h9, E, c1, c3, c2⟩
    · exact cd_virt hS hM hdg hnx hm h2 ha hn hst hlen hw c1 c2
    · exact cd_catch hlt hS hM hdg hnx hm h2 ha hn hst hlen hw c1 (ct_lt c2) c2
  unfold cok at h2
  split at h2
  all_goals try (exfalso; rename_i e1 _; cases e1; done)
  · rename_i idx' na k ci w1 w2 w3 w4 w5 e1 e2
    cases e1
    have e2 : ri = [2, na, k, ci, w1, w2, w3, w4, w5] := e2
    subst e2
    exact go 2 na k ci w1 w2 w3 w4 w5 (Or.inl rfl) h2 hr
  · rename_i idx' na k ci w1 w2 w3 w4 w5 e1 e2
    cases e1
    have e2 : ri = [9, na, k, ci, w1, w2, w3, w4, w5] := e2
    subst e2
    exact go 9 na k ci w1 w2 w3 w4 w5 (Or.inr rfl) h2 hr
  · rename_i idx' na k k2 w1 w2 w3 s1 s2 s3 s4 t1 t2 t3 t4 e1 e2
    cases e1
    have e2 : ri = [6, na, k, k2, w1, w2, w3, s1, s2, s3, s4, t1, t2, t3, t4] := e2
    subst e2
    rw [Bool.and_eq_true] at h2
    have hr : cdF rc d M pc nx 6 na k [k2, w1, w2, w3, s1, s2, s3, s4, t1, t2, t3, t4] lv st h = some (h', o) := hr
    obtain ⟨d', as, r0, k', rv, r, M', rfl, hn, hst, ht, hm, hlen, hw, hc⟩ := cd_inv hr
    rw [tgtM_6] at ht
    have hc : ∃ h9 v, rc d' M' 0 (ent (mL M') (rv ++ as)) [] h = some (h9, .inl v) ∧ rc (d' + 1) M nx lv (v.toList ++ r) h9 = some (h', o) := by
      rcases hc with hc | ⟨_, _, _, c3, _⟩
      · exact hc
      · cases c3
    obtain ⟨h9, v, c1, c2⟩ := hc
    split at ht
    · rename_i a r'
      split at ht
      · rename_i fs ha
        cases ht
        exact cd_abs hS hM hdg hnx hm h2.1 ha hn hst hlen hw c1 c2
      · rename_i fs ha
        cases ht
        exact cd_abs hS hM hdg hnx hm h2.2 ha hn hst hlen hw c1 c2
      · cases ht
    · cases ht
  all_goals first | (exfalso; simp_all; done) | (cases h2; done)
theorem eok_ret {M : MI} {pc nx : Nat} {ins : Instr} {ri : List Nat} (he : eokx M (pc, ins, nx, ri) = true) (hins : ins = .ireturn ∨ ins = .lreturn ∨ ins = .areturn ∨ ins = .return_) : decode (mB M) pc = .ok (ins, 1) := by
  rcases hins with rfl | rfl | rfl | rfl
  all_goals
    obtain ⟨h1, -⟩ := eok_of he (fun _ z => by cases z) (fun _ _ z => by cases z)
    simp only [eok, Bool.and_eq_true, decide_eq_true_eq] at h1
    simp only [ilen] at h1
    exact h1.1.1
theorem mu_ok {rc : RF} (hS : Snd D dA base b L xs l rc) {d : Nat} {M : MI} {pc i nx : Nat} {ri : List Nat} {lv : List (Option Value)} {st : List Value} {h h' : AH} {o : RO} (hM : mokb M = true) (hr : muF rc d M pc i nx ri lv st h = some (h', o)) : Ok D dA base b L xs l d M pc lv st h h' o := by
  unfold muF at hr
  split at hr
  · rename_i t w _
    split at hr
    · rename_i ty ht
      have hty : ty ∈ ([.byte, .boolean, .int] : List FieldType) := by
        unfold muT at ht
        split at ht
        all_goals first | (cases ht; decide) | cases ht
      unfold muG at hr
      split at hr
      · rename_i k n r
        split at hr
        · rename_i hc
          obtain ⟨hmc, hn, hk, hn2, hk2⟩ := hc
          unfold mchk at hmc
          rw [Bool.and_eq_true, Bool.and_eq_true, decide_eq_true_eq, decide_eq_true_eq, decide_eq_true_eq] at hmc
          obtain ⟨⟨hdg, hw⟩, rfl⟩ := hmc
          obtain ⟨m1, k1⟩ := hS d M (pc + 4) lv (.ref h.1 :: r) (hmul h ty n.toNatClampNeg k.toNatClampNeg) h' o hM hr
          have e1 : (hmul h ty n.toNatClampNeg k.toNatClampNeg).1 = h.1 + 1 + n.toNatClampNeg := rfl
          have e2 : (hmul h ty n.toNatClampNeg k.toNatClampNeg).2.1 = h.2.1 + n.toNatClampNeg + n.toNatClampNeg * k.toNatClampNeg := rfl
          refine ⟨⟨by omega, by omega⟩, fun p e R s m args below meth c Q n0 s0 g => ?_⟩
          intro H locs cells slots ls hR hS1 hL hcl hsl
          have g1 := g.2.2.2.2.2.1
          have g2 := g.2.2.2.2.2.2.1
          refine rw_multi g.1.1 g.1.2.1 g.1.2.2.2.2.1 g.1.2.2.2.1 hty hR hS1 hw hn hk hn2 hk2 (by omega) (by omega) hdg (fun H1 locs1 hR1 hSS => ?_)
          exact k1 p e R s m args below meth c Q n0 s0 g H1 locs1 _ _ ls hR1 hSS hL (by omega) (by omega)
        · cases hr
      · cases hr
    · cases hr
  · cases hr
theorem dp_ok (hlt : l.stackTraces = false) {rc : RF} (hS : Snd D dA base b L xs l rc) {d : Nat} {M : MI} {pc nx : Nat} {ins : Instr} {ri : List Nat} {lv : List (Option Value)} {st : List Value} {h h' : AH} {o : RO} (hM : mokb M = true) (he : eokx M (pc, ins, nx, ri) = true) (hr : dpF b L xs rc d M pc ins nx ri lv st h = some (h', o)) : Ok D dA base b L xs l d M pc lv st h h' o := by
  unfold dpF at hr
  split at hr
  · exact fi_ok (nx := nx) (ri := ri) (eok_ret he (Or.inl rfl)) hr
  · exact fi_ok (nx := nx) (ri := ri) (eok_ret he (Or.inr (Or.inl rfl))) hr
  · exact fi_ok (nx := nx) (ri := ri) (eok_ret he (Or.inr (Or.inr (Or.inl rfl)))) hr
  · exact fi_ok (nx := nx) (ri := ri) (eok_ret he (Or.inr (Or.inr (Or.inr rfl)))) hr
  · exact ca_vi hlt hS hM he hr
  · exact ca_sp hS hM he hr
  · exact ca_st hS hM he hr
  · exact mu_ok hS hM hr
  · rename_i ik
    split at hr
    · rename_i E ic w
      split at hr
      · rename_i hc
        cases hr
        refine ⟨⟨Nat.le_succ _, Nat.le_add_right _ _⟩, fun p e R s m args below meth c Q n0 s0 g => ?_⟩
        intro H locs cells slots ls hR hS1 hL hcl hsl
        exact g.2.2.2.2.2.2.2 h H locs cells slots ls pc st ik nx ic w rfl hR hS1 hL.2.1 hcl hsl (by rw [g.2.2.2.1]; exact hc.1) hc.2 he
      · cases hr
    · rename_i hne
      by_cases h50 : ∃ r, ri = 50 :: r
      · obtain ⟨r, rfl⟩ := h50
        exfalso
        unfold stF at hr
        have hz : stp b L xs (mL M) (.new ik) nx (50 :: r) lv st h = none := rfl
        rw [hz] at hr
        cases hr
      · exact st_ok hS hM (eok_of he (fun _ _ r z => h50 ⟨r, z⟩) (fun _ _ z => by cases z)).1 hr
  · rename_i n1 n2 n3 n4 n5 n6 n7 n9 n8
    exact st_ok hS hM (eok_of he (fun ik z r _ => n8 ik z) (fun i j z => n9 i j z)).1 hr
/-- THE RUN IS THE MACHINE'S -/
theorem rn_snd (hlt : l.stackTraces = false) : ∀ n : Nat, Snd D dA base b L xs l (rnF b L xs n)
  | 0 => fun d M pc lv st h h' o _ hr => by cases hr
  | n + 1 => by
    intro d M pc lv st h h' o hM hr
    unfold rnF at hr
    cases hf : fet (mE M) pc with
    | none => rw [hf] at hr; cases hr
    | some q =>
      rw [hf] at hr
      obtain ⟨ins, nx, ri⟩ := q
      exact dp_ok hlt (rn_snd hlt n) hM (List.all_eq_true.mp hM _ (fet_inv hf)) hr
end SndW
end
section
/-! the start of the law: what the tables and the premises say there -/
theorem wk_swap {w : Cond} (hw : wk w = true) {s : State} {A B : Array Value} (h : w.before A s = true) : w.before B s = true := by
  cases w with
  | fieldLinkNest a i b n d q => exact va_tabs rfl rfl h
  | methodLinkNest a i x q => exact va_tabs rfl rfl h
  | declares x => exact va_tabs rfl rfl h
  | castable a b => exact va_tabs rfl rfl h
  | arrayOver ty => exact h
  | _ => exact word_at (State.WarmedH.refl s) (good_of_word hw) h
theorem arrayOver_specA {s : State} {A : Array Value} {t : FieldType} (h : (Cond.arrayOver (.array t)).before A s = true) :
    ∃ comp c k, s.vm.findClass (FieldType.array t).toString = some comp ∧ s.vm.classes[c]? = some k ∧ k.kind = .array comp (.array t) ∧ s.vm.findClass ("[" ++ (FieldType.array t).toString) = some c := by
  simp only [Cond.before, Cond.holds, Cond.value, beq_iff_eq] at h
  cases hc : s.vm.findClass (FieldType.array t).toString with
  | none => simp [hc] at h
  | some comp =>
    rw [hc, Option.bind_some] at h
    obtain ⟨c, h1, h2⟩ := Option.bind_eq_some_iff.mp h
    obtain ⟨k, h3, h4⟩ := Option.map_eq_some_iff.mp h2
    split at h4
    · rename_i cm ty hk
      simp only [Bool.and_eq_true, decide_eq_true_eq] at h4
      obtain ⟨rfl, h6⟩ := h4
      have hcomp : cm = comp := by
        obtain ⟨hlt, hp, -⟩ := Array.findIdx?_eq_some_iff_getElem.mp h1
        have e : s.vm.classes[c] = k := Option.some.inj ((Array.getElem?_eq_getElem hlt).symm.trans h3)
        rw [e, hk] at hp
        exact eq_of_beq hp
      subst hcomp
      exact ⟨cm, c, k, rfl, h3, hk, h6⟩
    · cases h4
theorem top_words : (∀ ty ∈ ([.int, .long, .byte, .boolean] : List FieldType), Cond.arrayClass ty ∈ lw_tbl) ∧ (∀ n ∈ ["TapeVault$Node", "TapeVault$Dump"], Cond.arrayOver (.object n) ∈ lw_tbl) ∧ (∀ ty ∈ ([.byte, .boolean, .int] : List FieldType), Cond.arrayOver (.array ty) ∈ lw_tbl) ∧ Cond.laysStatic Bundle.tN "UNASSIGNED_STACK" Bundle.steD ∈ lw_tbl ∧ Cond.laysStatic Bundle.tN "SUPPRESSED_SENTINEL" Bundle.listD ∈ lw_tbl ∧ Cond.initialized Bundle.tN ∈ lw_tbl := by decide +kernel
theorem top_nc : ∀ a ∈ exn, ∀ b ∈ exn, a ≠ b → Cond.not (.castable a b) ∈ flatC (Jvm.Cond.and given_1 narrow_1) := by decide +kernel
theorem top_ref : Cond.isRef (.static Bundle.tN "UNASSIGNED_STACK" Bundle.steD) ∈ flatC (Jvm.Cond.and given_1 narrow_1) ∧ Cond.isRef (.static Bundle.tN "SUPPRESSED_SENTINEL" Bundle.listD) ∈ flatC (Jvm.Cond.and given_1 narrow_1) := by decide +kernel
theorem top_arr {s : State} {A : Array Value} (hts : ∀ w ∈ lw_tbl, w.before A s = true) : ∀ ty : FieldType, ∃ cA : ClassId, ty ∈ atys → ArrOfT s cA ty ∧ va_RA s cA ty := by
  intro ty
  by_cases h : ty ∈ atys
  · have prim : ∀ t ∈ ([.int, .long, .byte, .boolean] : List FieldType), ∃ cA : ClassId, ArrOfT s cA t ∧ s.vm.findClass ("[" ++ t.toString) = some cA := by
      intro t ht
      obtain ⟨c, k, comp, h1, h2, h3⟩ := Cond.arrayClass_spec (hts _ (top_words.1 t ht))
      exact ⟨c, fun n z => ⟨fun q h => (by cases h), k, h2, comp, h3⟩, h1⟩
    have obj : ∀ n ∈ ["TapeVault$Node", "TapeVault$Dump"], ∃ cA : ClassId, ArrOfT s cA (.object n) ∧ va_RA s cA (.object n) := by
      intro n hn
      obtain ⟨comp, c, k, h1, -, h3, h4, h5⟩ := Cond.arrayOver_spec (hts _ (top_words.2.1 n hn))
      exact ⟨c, fun m z => ⟨fun q h => (by cases h), k, h3, comp, h4⟩, k, comp, h3, h4, h1, h5⟩
    have arr : ∀ t ∈ ([.byte, .boolean, .int] : List FieldType), ∃ cA : ClassId, ArrOfT s cA (.array t) ∧ s.vm.findClass ("[" ++ (FieldType.array t).toString) = some cA := by
      intro t ht
      obtain ⟨comp, c, k, h1, h3, h4, h5⟩ := arrayOver_specA (hts _ (top_words.2.2.1 t ht))
      exact ⟨c, fun m z => ⟨fun q h => (by cases h), k, h3, comp, h4⟩, h5⟩
    simp only [atys, List.mem_cons, List.not_mem_nil, or_false] at h
    rcases h with rfl | rfl | rfl | rfl | rfl | rfl | rfl | rfl | rfl
    · obtain ⟨c, h1, h2⟩ := prim .int (by decide); exact ⟨c, fun _ => ⟨h1, h2⟩⟩
    · obtain ⟨c, h1, h2⟩ := prim .long (by decide); exact ⟨c, fun _ => ⟨h1, h2⟩⟩
    · obtain ⟨c, h1, h2⟩ := prim .byte (by decide); exact ⟨c, fun _ => ⟨h1, h2⟩⟩
    · obtain ⟨c, h1, h2⟩ := prim .boolean (by decide); exact ⟨c, fun _ => ⟨h1, h2⟩⟩
    · obtain ⟨c, h1⟩ := obj "TapeVault$Node" (by decide); exact ⟨c, fun _ => h1⟩
    · obtain ⟨c, h1⟩ := obj "TapeVault$Dump" (by decide); exact ⟨c, fun _ => h1⟩
    · obtain ⟨c, h1, h2⟩ := arr .byte (by decide); exact ⟨c, fun _ => ⟨h1, h2⟩⟩
    · obtain ⟨c, h1, h2⟩ := arr .boolean (by decide); exact ⟨c, fun _ => ⟨h1, h2⟩⟩
    · obtain ⟨c, h1, h2⟩ := arr .int (by decide); exact ⟨c, fun _ => ⟨h1, h2⟩⟩
  · exact ⟨0, fun q => absurd q h⟩
theorem top_cls {s : State} {A : Array Value} (hts : ∀ w ∈ lw_tbl, w.before A s = true) : ∀ k : Nat, ∃ q : ClassId × (Nat → Nat), ∀ v : vw_C, vcl[k]? = some v → u_Kn s v.1 v.2.1 v.2.2 q.1 q.2 := by
  intro k
  cases hv : vcl[k]? with
  | none => exact ⟨(0, fun _ => 0), fun v h => by cases h⟩
  | some v =>
    have hm := List.mem_of_getElem? hv
    obtain ⟨c, i, h⟩ := u_known (C := v.1) (T := v.2.1) (N := v.2.2) (n := v.2.2) hts (vcl_in v hm) (hts _ (vcl_inst v hm).1)
    exact ⟨(c, i), fun v' h' => by cases h'; exact h⟩
theorem top_wd {s : State} {b : Nat} (hts : ∀ w ∈ lw_tbl, w.before #[Value.ref b] s = true) (hgv : (Jvm.Cond.and given_1 narrow_1).before #[Value.ref b] s = true) : ∃ (D : va_G) (dA : FieldType → ClassId), Wd D dA s := by
  obtain ⟨F, hF⟩ := Classical.skolem.mp (top_cls hts)
  obtain ⟨dA, hA⟩ := Classical.skolem.mp (top_arr hts)
  have fl := flat_of_before _ hgv
  refine ⟨(fun k => (F k).1, fun k => (F k).2), dA, fun w hw hk => wk_swap hk (hts w hw), ⟨fun k v hv => hF k v hv, fun k q h => by cases h⟩, fun ty ht => hA ty ht, fun a ha b' hb hne => va_Nc.of (fl _ (top_nc a ha b' hb hne)), ?_⟩
  intro ty ht
  obtain ⟨comp, c, k, h1, h3, h4, h5⟩ := arrayOver_specA (hts _ (top_words.2.2.1 ty ht))
  have m1 : FieldType.array ty ∈ atys ∧ ty ∈ atys := by
    simp only [List.mem_cons, List.not_mem_nil, or_false] at ht
    rcases ht with rfl | rfl | rfl <;> exact ⟨by decide, by decide⟩
  have e1 : dA (.array ty) = c := Option.some.inj ((hA _ m1.1).2.symm.trans h5)
  have e2 : dA ty = comp := by
    have h6 : s.vm.findClass ("[" ++ ty.toString) = some (dA ty) := by
      have := (hA _ m1.2).2
      simp only [List.mem_cons, List.not_mem_nil, or_false] at ht
      rcases ht with rfl | rfl | rfl <;> exact this
    have h7 : (FieldType.array ty).toString = "[" ++ ty.toString := by
      simp only [List.mem_cons, List.not_mem_nil, or_false] at ht
      rcases ht with rfl | rfl | rfl <;> decide
    rw [h7] at h1
    exact Option.some.inj (h6.symm.trans h1)
  rw [e1, e2]
  exact ⟨k, h3, h4⟩
theorem top_hw {s : State} {b L : Nat} {xs : Nat → Int32} (hts : ∀ w ∈ lw_tbl, w.before #[Value.ref b] s = true) (hgv : (Jvm.Cond.and given_1 narrow_1).before #[Value.ref b] s = true) (hX : va_X b L xs s s.heap) (hb : b < s.heap.size) : Hw s.heap.size b L xs s s.heap := by
  have fl := flat_of_before _ hgv
  exact ⟨vx_Zqof (hts _ top_words.2.2.2.1) (hts _ top_words.2.2.2.2.2) (fl _ top_ref.1) (fun a h => Nat.not_le.mpr h), vx_Zqof (hts _ top_words.2.2.2.2.1) (hts _ top_words.2.2.2.2.2) (fl _ top_ref.2) (fun a h => Nat.not_le.mpr h), hX, hb, Nat.le_refl _⟩
end
section
/-! the claim out of the abstract run of the law (after the kit's skeleton) -/
def R_law : String := "TapeVaultLaw"
def lw_P (b : Addr) (xs : List Int32) (args : Array Value) (s : State) : Prop := args = #[.ref b] ∧ s.IntsAt b xs ∧ xs.length ≤ 2560 ∧ (Jvm.Cond.and given_1 narrow_1).before args s = true
def lw_Q (_ : Array Value) (s : State) (o : Outcome) (t : State) : Prop := o = .returned (some (.int 1)) ∧ Framed s o t [] 601024 7293034
def lw_Z (below : List Frame) (a : Array Value) (s : State) : State → Prop := fun t => ∃ o, t.status = .running ∧ Ended t below o ∧ lw_Q a s o t
/-- the law's own end, with 1 on the stack, nothing written that was there before, its room as the claim has it -/
theorem lw_ret {p : Program} {l : Launch} {e : Env} {s : State} {m : MethodId} {below : List Frame} {meth : Method} {c : Code} {b : Nat} (hx : p.tables.exec = Jvm.exec) (hb : c.code = code) (hr : meth.sig.returnType = ret) (hlocks : meth.locks = false) {pc : Nat} {H : Heap} {ls : Array Slot} (hdg : decode code pc = .ok (.ireturn, 1)) : W p l e room_1 s m #[Value.ref b] below meth c H [] 601024 7293034 (lw_Z below #[Value.ref b] s) (F0 m pc ls [.int 1]) := by
  intro T hT X
  obtain ⟨fs, hret, hrun, hended, hW, hframe⟩ := X.leave (v := some (.int 1)) (hlocks := hlocks) (fun h => by rw [hr] at h; cases h)
  have hmeth' : T.vm.method? m = some meth := X.method'
  refine ⟨T.setFrames fs, ?_, .returned (some (.int 1)), hrun, hended, rfl, ⟨_, rfl⟩, hW, hframe⟩
  jvm_step X.here [X.here.top, hx, hb, hdg, hmeth', hr, ret, narrow_b1]
  (try refine ⟨rfl, ?_⟩); (try refine ⟨rfl, ?_⟩)
  first | (intro acts; rw [hret _ acts rfl rfl rfl]) | rw [hret _ _ rfl rfl rfl]
  exact Steps.refl _
/-- what holds at the law's entry: the machine, the code, the tables' words (any of lw_tbl by 'hts w (by decide +kernel)'), the script of L ints xs at the cell b, what the Statement gives of the start (any of its parts by flat_of_before) -/
def lw_At (p : Program) (s : State) (m : MethodId) (meth : Method) (c : Code) (b L : Nat) (xs : Nat → Int32) : Prop :=
  p.tables.exec = Jvm.exec ∧ c.code = code ∧ meth.sig.returnType = ret ∧ c.maxLocals = 8 ∧ s.vm.findClass R_law = some m.cls ∧ (∀ w ∈ lw_tbl, w.before #[Value.ref b] s = true) ∧ va_X b L xs s s.heap ∧ b < s.heap.size ∧ meth.locks = false ∧ (Jvm.Cond.and given_1 narrow_1).before #[Value.ref b] s = true
/-- WHAT IS LEFT, over the abstract run alone: on every script of at most 2560 ints the law's frame comes to 1, within the room -/
def PureClaim : Prop := ∀ (b L base : Nat) (xs : Nat → Int32), L ≤ 2560 → b < base → ∃ (n : Nat) (h' : AH), rnF b L xs n 10 mi_145 0 (ent 8 [.ref b]) [] (base, 0, fun _ => none) = some (h', .inl (some (.int 1))) ∧ h'.1 ≤ base + 601024 ∧ h'.2.1 ≤ 7293034
theorem mi145_facts : mY mi_145 = ⟨"TapeVaultLaw", "law", "([I)Z"⟩ ∧ mL mi_145 = 8 ∧ mR mi_145 = some .boolean ∧ mH mi_145 = [] := ⟨rfl, rfl, rfl, rfl⟩
theorem whole_start (hp : PureClaim) {p : Program} {e : Env} {s : State} {m : MethodId} {below : List Frame} {meth : Method} {c : Code} (l : Launch) (hlt : l.stackTraces = false) (htab : c.exceptionTable.toList = []) {b L : Nat} {xs : Nat → Int32} (hL : L ≤ 2560) (C0 : lw_At p s m meth c b L xs) : W p l e room_1 s m #[Value.ref b] below meth c s.heap [] 0 0 (lw_Z below #[Value.ref b] s) (entryFrame m ([Value.ref b] : List Value).toArray 8) := by
  obtain ⟨hx, hb, hr, hml, hown, hts, hX, hbl, hlocks, hgv⟩ := C0
  obtain ⟨D, dA, hW⟩ := top_wd hts hgv
  obtain ⟨n, h', hrun, hc1, hc2⟩ := hp b L s.heap.size xs hL hbl
  obtain ⟨-, k⟩ := rn_snd (D := D) (dA := dA) (base := s.heap.size) (b := b) (L := L) (xs := xs) hlt n 10 mi_145 0 (ent 8 [.ref b]) [] (s.heap.size, 0, fun _ => none) h' _ mok_145 hrun
  rw [lg_entry_eq]
  refine k p e room_1 s m #[Value.ref b] below meth c _ s.heap.size 0 ⟨⟨hx, hb, hml, hown, hW, top_hw hts hgv hX hbl, hlocks⟩, (fun q => absurd q (by decide)), htab, rfl, (by decide), hc1, (by show h'.2.1 ≤ 0 + 7293034; omega), ?_⟩ s.heap [] 0 0 _ ⟨rfl, Nat.le_refl _, fun a o h => by cases h⟩ va_S.rf (LV.entry (show ([Value.ref b].flatMap ent1).length ≤ 8 from (show 1 ≤ 8 by decide))) (Nat.zero_add _) (Nat.zero_add _)
  intro H locs cells slots ls pc st ins hR hS hcl hsl hv hdg
  have hq : ins = .ireturn ∧ st = [.int 1] := by
    unfold retV at hv
    split at hv
    · cases hv; exact ⟨rfl, rfl⟩
    · split at hv
      · cases hv; exact ⟨rfl, rfl⟩
      · cases hv
    all_goals cases hv
  obtain ⟨rfl, rfl⟩ := hq
  refine va_forget (fun q hq => hS.2.2 q hq) ?_
  refine W.widen (k := 601024) (n := 7293034) (by omega) (by omega) ?_
  exact lw_ret hx hb hr hlocks hdg
set_option maxHeartbeats 4000000 in
theorem lw_walk (hp : PureClaim) (l : Launch) (hlt : l.stackTraces = false) (b : Addr) (xs : List Int32) : MetFree l x (headSpec (Jvm.Cond.code x code maxLocals ret :: tables_1) room_1) (lw_P b xs) (fun _ _ _ _ _ => True) lw_Q := by
  refine MetFree.of_bodyS (code := code) (maxLocals := maxLocals) (ret := ret) (by decide) ?_ ?_
  · intro args s m h hn
    obtain ⟨meth, c, h1, h2, h3, h4, h5, h6, -, -⟩ := Cond.code_spec hn (atoms_spec (ws := Jvm.Cond.code x code maxLocals ret :: tables_1) h _ List.mem_cons_self)
    exact ⟨meth, c, h1, h2, h3, h4, h5, h6⟩
  · intro p e s m args below meth c s₁ B hml0 hP _
    obtain ⟨rfl, hx, hbd, hgv⟩ := hP
    obtain ⟨scr, harrAt, hlist, hof, hsmall⟩ := hx
    obtain ⟨hcb, hkn, -, -⟩ := State.arrayAt?_spec harrAt
    have hown : s.vm.findClass R_law = some m.cls := findClass_of_methodNamed B.named
    have hts0 : ∀ c ∈ (Jvm.Cond.code x code maxLocals ret :: tables_1), c.before #[Value.ref b] s = true := atoms_spec (ws := Jvm.Cond.code x code maxLocals ret :: tables_1) B.pre
    have hts : ∀ w ∈ lw_tbl, w.before #[Value.ref b] s = true := k2_hts_sels lw_privs (fun w hw => hts0 w (List.mem_cons_of_mem _ hw)) lw_privs_ok
    have hml : c.maxLocals = 8 := B.maxLocals_eq (hts0 _ List.mem_cons_self)
    have X₀ : Stand p l e room_1 s m #[Value.ref b] below meth c s₁ [] 0 0 := Stand.of_body B
    have hh0 : s₁.heap = s.heap := by rw [B.state]; rfl
    have hsz : scr.slots.size = xs.length := by rw [← Array.length_toList, hlist, List.length_map]
    have hval : ∀ j : Nat, j < xs.length → scr.slots[j]? = some (.int (xs.getD j 0)) := fun j hj => by
      rw [← Array.getElem?_toList, hlist]
      simp [hj]
    have htab : c.exceptionTable.toList = [] := by
      obtain ⟨meth9, c9, g1, g2, -, -, -, -, g7, -⟩ := Cond.code_spec B.named (hts0 _ List.mem_cons_self)
      cases Option.some.inj (g1.symm.trans B.method)
      cases Option.some.inj (g2.symm.trans (Stand.of_body B).code)
      rw [Array.isEmpty_iff.mp g7]
    have hbl : b < s.heap.size := (Array.getElem?_eq_some_iff.mp hcb).1
    have hX : va_X b xs.length (fun j => xs.getD j 0) s s.heap := ⟨scr, hcb, hof, hkn, hsz, hval⟩
    have K : W p l e room_1 s m #[Value.ref b] below meth c s₁.heap [] 0 0 (lw_Z below #[Value.ref b] s) (entryFrame m ([Value.ref b] : List Value).toArray 8) := by
      rw [hh0]
      exact whole_start hp l hlt htab hbd ⟨B.exec, B.bytes, B.returns, hml, hown, hts, hX, hbl, B.notSynchronized, hgv⟩
    obtain ⟨t, a1, o, b1, b2, b3⟩ := K s₁ rfl X₀
    exact ⟨t, o, a1, b1, b2, b3⟩
theorem lw_pre_spec {args : Array Value} {s : State} (h : (Jvm.Cond.and given_1 narrow_1).before args s = true) (hr : rest_1_c.before args s = true) : ∃ (b : Addr) (xs : List Int32), lw_P b xs args s := by
  have hs := flat_of_before _ h
  have hq := flat_of_before _ hr
  have hc : (Cond.count 1).before args s = true := hs _ (by decide +kernel)
  have harr : (Cond.arrayOf (.arg 0) .int).before args s = true := hs _ (by decide +kernel)
  have hle : (Cond.le (.length (.arg 0)) (.int 2560)).before args s = true := hs _ (by decide +kernel)
  have hlen : (Cond.isInt (.length (.arg 0))).before args s = true := hq _ (by decide +kernel)
  have hall : (Cond.all (.arg 0) (.isInt (.elem (.arg 0) (.index 0)))).before args s = true := hq _ (by decide +kernel)
  obtain ⟨b, xs, hb, hx⟩ := State.ints_of_pre rfl harr hlen hall
  have hsm : xs.length < 2 ^ 31 := hx.choose_spec.2.2.2
  have hev : (Term.length (.arg 0)).eval args s none [] s = some (.int xs.length.toInt32) := hx.length_eval hb
  have hv := Cond.le_ints hev (show (Term.int 2560).eval args s none [] s = some (.int 2560) from rfl)
  have hd : xs.length.toInt32 ≤ 2560 := by
    simpa [Cond.before, Cond.holds, hv] using hle
  have hN : xs.length ≤ 2560 := (Int32.ofNat_le_ofNat hsm (by decide)).mp (show Int32.ofNat xs.length ≤ Int32.ofNat 2560 from hd)
  exact ⟨b, xs, Cond.one_arg hc (show args[0]? = some (.ref b) from hb), hx, hN, h⟩
theorem lw_comes (hp : PureClaim) (l : Launch) (hlt : l.stackTraces = false) : Comes l x (Jvm.Cond.code x code maxLocals ret :: tables_1) room_1 (fun tb e args s => Calls_1 tb e args s ∧ rest_1 tb e args s ∧ Pre_1 tb e args s)
    (fun _ _ args s o t => lw_Q args s o t) := by
  intro p e ha hc hk s m args below hf hfit hheap happ hpre
  obtain ⟨b, xs, hP⟩ := lw_pre_spec hpre.2.2 hpre.2.1
  obtain ⟨k, o, h1, h2, h3, hQ⟩ := lw_walk hp l hlt b xs p e ha hc hk s m args below hf ((Spec.applies_iff_loose hf).mp happ).1 hP trivial
  exact ⟨k, o, h1, h2, h3, hQ⟩
theorem lw_frame {s t : State} {o : Outcome} {args : Array Value} (h : Framed s o t [] 601024 7293034) :
    Framed s o t (fieldLocs frame_1_writes args s ++ arrayLocs frame_1_arrays args s ++ staticLocs frame_1_statics s) 601024 7293034 := h
theorem lw_limb (hp : PureClaim) (L : Cond) (hL : ∀ (args : Array Value) (s t : State), L.after args s (.returned (some (.int 1))) t = true) :
    ArmFor flags0 classFile x code maxLocals ret World_1 tables_1 room_1 Calls_1 rest_1 Pre_1
      (fun tb e a s o t => postC L tb e a s o t ∧ Framed s o t (fieldLocs frame_1_writes a s ++ arrayLocs frame_1_arrays a s ++ staticLocs frame_1_statics s) 601024 7293034) := by
  intro l hfl _ _ p e ha hc hk s m args below hf hfit hheap happ hpre
  obtain ⟨k, o, h1, h2, h3, rfl, hF⟩ := lw_comes hp l (by unfold Launch.stackTraces; rw [hfl]; decide +kernel) p e ha hc hk s m args below hf hfit hheap happ hpre
  exact ⟨k, _, h1, h2, h3, hL args s _, lw_frame hF⟩
theorem i_vc_open (hp : PureClaim) : Claimed_1_1 ∧ Claimed_1_2 := ⟨lw_limb hp limb_1_1 (fun args s t => by simp [limb_1_1, Cond.after, Cond.holds, Cond.value]), lw_limb hp limb_1_2 (fun args s t => Cond.after_iff.mpr (by
  first | (rw [show limb_1_2 = Cond.eq .result (.int 1) from rfl, Cond.eq_ints (x := 1) (y := 1) rfl rfl]; simp; done) | (simp [limb_1_2, Cond.value, Term.eval]; done)))⟩
end
section
/-! runs of the abstract machine by what they come to -/
section RnMono
variable {sb sL : Nat} {sx : Nat → Int32}
def rcLe (rc rc' : RF) : Prop := ∀ d M pc lv st h r, rc d M pc lv st h = some r → rc' d M pc lv st h = some r
theorem ctF_mono {rc rc' : RF} (H : rcLe rc rc') {d : Nat} {M : MI} {pc : Nat} {lv : List (Option Value)} {h : AH} {E : Nat} {r : AH × RO} (hr : ctF rc d M pc lv h E = some r) : ctF rc' d M pc lv h E = some r := by
  unfold ctF at hr ⊢
  split
  · rename_i hc
    rw [if_pos hc] at hr
    cases e1 : fh (mH M) pc E with
    | none => rw [e1] at hr; cases hr
    | some hp =>
      rw [e1] at hr
      dsimp only at hr ⊢
      split at hr
      · rename_i q nx2 w e2
        try rw [e2]
        try dsimp only
        split at hr
        · rename_i hq
          rw [if_pos hq]
          exact H _ _ _ _ _ _ _ hr
        · cases hr
      · rename_i q nx2 w e2
        try rw [e2]
        try dsimp only
        split at hr
        · rename_i hq
          rw [if_pos hq]
          exact H _ _ _ _ _ _ _ hr
        · cases hr
      · cases hr
  · rename_i hc
    rw [if_neg hc] at hr
    cases hr
theorem cdF_mono {rc rc' : RF} (H : rcLe rc rc') {d : Nat} {M : MI} {pc nx kd na k : Nat} {t : List Nat} {lv : List (Option Value)} {st : List Value} {h : AH} {r : AH × RO} (hr : cdF rc d M pc nx kd na k t lv st h = some r) : cdF rc' d M pc nx kd na k t lv st h = some r := by
  cases d with
  | zero => cases hr
  | succ d' =>
    unfold cdF at hr ⊢
    dsimp only at hr ⊢
    cases e1 : popN na st with
    | none => rw [e1] at hr; cases hr
    | some z =>
      rw [e1] at hr
      dsimp only at hr ⊢
      cases e2 : tgtM kd k t z.2 h with
      | none => rw [e2] at hr; cases hr
      | some y =>
        rw [e2] at hr
        dsimp only at hr ⊢
        cases e3 : mt[y.1]? with
        | none => rw [e3] at hr; cases hr
        | some M' =>
          rw [e3] at hr
          dsimp only at hr ⊢
          by_cases hc : ((y.2.1 ++ z.1).flatMap ent1).length ≤ mL M' ∧ wsum y.2.2 ≤ 8
          · rw [if_pos hc] at hr ⊢
            cases e4 : rc d' M' 0 (ent (mL M') (y.2.1 ++ z.1)) [] h with
            | none => rw [e4] at hr; cases hr
            | some w =>
              rw [e4] at hr
              rw [H _ _ _ _ _ _ _ e4]
              obtain ⟨h1, o⟩ := w
              cases o with
              | inl v => exact H _ _ _ _ _ _ _ hr
              | inr E =>
                dsimp only at hr ⊢
                by_cases hk : kd = 9
                · rw [if_pos hk] at hr ⊢
                  exact ctF_mono H hr
                · rw [if_neg hk] at hr
                  cases hr
          · rw [if_neg hc] at hr
            cases hr
theorem caF_mono {rc rc' : RF} (H : rcLe rc rc') {d : Nat} {M : MI} {pc nx : Nat} {ri : List Nat} {lv : List (Option Value)} {st : List Value} {h : AH} {r : AH × RO} (hr : caF rc d M pc nx ri lv st h = some r) : caF rc' d M pc nx ri lv st h = some r := by
  unfold caF at hr ⊢
  split at hr
  · split at hr
    · split at hr
      · rename_i hc
        try dsimp only
        rw [if_pos hc]
        exact H _ _ _ _ _ _ _ hr
      · cases hr
    · cases hr
  · split at hr
    · rename_i z e1
      split at hr
      · rename_i hc
        try dsimp only
        try rw [e1]
        try dsimp only
        rw [if_pos hc]
        exact H _ _ _ _ _ _ _ hr
      · cases hr
    · cases hr
  · split at hr
    · split at hr
      · rename_i hc
        try dsimp only
        rw [if_pos hc]
        exact H _ _ _ _ _ _ _ hr
      · cases hr
    · cases hr
  · split at hr
    · split at hr
      · rename_i hc
        try dsimp only
        rw [if_pos hc]
        exact H _ _ _ _ _ _ _ hr
      · cases hr
    · cases hr
  · exact cdF_mono H hr
  · cases hr
theorem stF_mono {rc rc' : RF} (H : rcLe rc rc') {d : Nat} {M : MI} {ins : Instr} {nx : Nat} {ri : List Nat} {lv : List (Option Value)} {st : List Value} {h : AH} {r : AH × RO} (hr : stF sb sL sx rc d M ins nx ri lv st h = some r) : stF sb sL sx rc' d M ins nx ri lv st h = some r := by
  unfold stF at hr ⊢
  cases e1 : stp sb sL sx (mL M) ins nx ri lv st h with
  | none => rw [e1] at hr; cases hr
  | some z =>
    rw [e1] at hr
    exact H _ _ _ _ _ _ _ hr
theorem muF_mono {rc rc' : RF} (H : rcLe rc rc') {d : Nat} {M : MI} {pc i nx : Nat} {ri : List Nat} {lv : List (Option Value)} {st : List Value} {h : AH} {r : AH × RO} (hr : muF rc d M pc i nx ri lv st h = some r) : muF rc' d M pc i nx ri lv st h = some r := by
  unfold muF at hr ⊢
  split at hr
  · split at hr
    · rename_i ty e1
      try dsimp only
      try rw [e1]
      try dsimp only
      unfold muG at hr ⊢
      split at hr
      · split at hr
        · rename_i hc
          try dsimp only
          rw [if_pos hc]
          exact H _ _ _ _ _ _ _ hr
        · cases hr
      · cases hr
    · cases hr
  · cases hr
theorem dpF_mono {rc rc' : RF} (H : rcLe rc rc') {d : Nat} {M : MI} {pc : Nat} {ins : Instr} {nx : Nat} {ri : List Nat} {lv : List (Option Value)} {st : List Value} {h : AH} {r : AH × RO} (hr : dpF sb sL sx rc d M pc ins nx ri lv st h = some r) : dpF sb sL sx rc' d M pc ins nx ri lv st h = some r := by
  cases ins
  case invokevirtual i => exact caF_mono H hr
  case invokespecial i => exact caF_mono H hr
  case invokestatic i => exact caF_mono H hr
  case multianewarray i j => exact muF_mono H hr
  case ireturn => exact hr
  case lreturn => exact hr
  case areturn => exact hr
  case return_ => exact hr
  case new ik =>
    unfold dpF at hr ⊢
    dsimp only at hr ⊢
    split at hr
    · exact hr
    · exact stF_mono H hr
  all_goals
    unfold dpF at hr ⊢
    exact stF_mono H hr
theorem rnF_mono1 : ∀ n : Nat, rcLe (rnF sb sL sx n) (rnF sb sL sx (n + 1))
  | 0 => fun d M pc lv st h r hr => by cases hr
  | n + 1 => fun d M pc lv st h r hr => by
    have ih := rnF_mono1 n
    show (match fet (mE M) pc with | none => none | some q => dpF sb sL sx (rnF sb sL sx (n + 1)) d M pc q.1 q.2.1 q.2.2 lv st h) = some r
    have hr : (match fet (mE M) pc with | none => none | some q => dpF sb sL sx (rnF sb sL sx n) d M pc q.1 q.2.1 q.2.2 lv st h) = some r := hr
    cases e1 : fet (mE M) pc with
    | none => rw [e1] at hr; cases hr
    | some q =>
      rw [e1] at hr
      exact dpF_mono ih hr
theorem rnF_mono {n m : Nat} (hnm : n ≤ m) : rcLe (rnF sb sL sx n) (rnF sb sL sx m) := by
  induction hnm with
  | refl => exact fun _ _ _ _ _ _ _ h => h
  | step _ ih => exact fun _ _ _ _ _ _ _ h => rnF_mono1 _ _ _ _ _ _ _ _ (ih _ _ _ _ _ _ _ h)
end RnMono
/-- the frame comes to an end, and there Q holds -/
def Wp (b L : Nat) (xs : Nat → Int32) (d : Nat) (M : MI) (pc : Nat) (lv : List (Option Value)) (st : List Value) (h : AH) (Q : AH → RO → Prop) : Prop := ∃ n h' o, rnF b L xs n d M pc lv st h = some (h', o) ∧ Q h' o
end
section
/-! ints by their values -/
abbrev vI (z : Int) : Value := .int (Int32.ofInt z)
abbrev vJ (z : Int) : Value := .long (Int64.ofInt z)
theorem i_int {x : Int} (h1 : -2147483648 ≤ x) (h2 : x ≤ 2147483647) : (Int32.ofInt x).toInt = x := Int32.toInt_ofInt_of_le (by omega) (by omega)
theorem i_lt {x y : Int} (h1 : -2147483648 ≤ x) (h2 : x ≤ 2147483647) (h3 : -2147483648 ≤ y) (h4 : y ≤ 2147483647) : Int32.ofInt x < Int32.ofInt y ↔ x < y := by
  rw [Int32.lt_iff_toInt_lt, i_int h1 h2, i_int h3 h4]
theorem i_le {x y : Int} (h1 : -2147483648 ≤ x) (h2 : x ≤ 2147483647) (h3 : -2147483648 ≤ y) (h4 : y ≤ 2147483647) : Int32.ofInt x ≤ Int32.ofInt y ↔ x ≤ y := by
  rw [Int32.le_iff_toInt_le, i_int h1 h2, i_int h3 h4]
theorem i_eq {x y : Int} (h1 : -2147483648 ≤ x) (h2 : x ≤ 2147483647) (h3 : -2147483648 ≤ y) (h4 : y ≤ 2147483647) : Int32.ofInt x = Int32.ofInt y ↔ x = y := by
  rw [← Int32.toInt_inj, i_int h1 h2, i_int h3 h4]
theorem i_zero : (0 : Int32) = Int32.ofInt 0 := rfl
theorem i_eq0 {x : Int} (h1 : -2147483648 ≤ x) (h2 : x ≤ 2147483647) : Int32.ofInt x = 0 ↔ x = 0 := by
  rw [i_zero, i_eq h1 h2 (by omega) (by omega)]
theorem i_clamp {x : Int} (h1 : 0 ≤ x) (h2 : x ≤ 2147483647) : (Int32.ofInt x).toNatClampNeg = x.toNat := by
  rw [← Int32.toNat_toInt, i_int (by omega) h2]
theorem i_in {x : Int} {n : Nat} (h1 : 0 ≤ x) (h2 : x < n) (h3 : n ≤ 2147483647) : ¬ (Int32.ofInt x < 0 ∨ n ≤ (Int32.ofInt x).toNatClampNeg) := by
  rw [i_zero, i_lt (by omega) (by omega) (by omega) (by omega), i_clamp h1 (by omega)]
  omega
theorem i_of (x : Int32) : Value.int x = vI x.toInt := by rw [vI, Int32.ofInt_toInt]
theorem i_lo (x : Int32) : -2147483648 ≤ x.toInt := by
  have := x.le_toInt; omega
theorem i_hi (x : Int32) : x.toInt ≤ 2147483647 := by
  have := x.toInt_lt; omega
theorem i_min : Int32.minValue.toInt = -2147483648 := rfl
theorem i_max : Int32.maxValue.toInt = 2147483647 := rfl
theorem i_div {x y : Int} (h1 : 0 ≤ x) (h2 : x ≤ 2147483647) (h3 : 0 < y) (h4 : y ≤ 2147483647) : Int32.ofInt x / Int32.ofInt y = Int32.ofInt (x / y) := by
  have := Int32.ofInt_tdiv (a := x) (b := y) (by rw [i_min]; omega) (by rw [i_max]; omega) (by rw [i_min]; omega) (by rw [i_max]; omega)
  rw [← this, Int.tdiv_eq_ediv_of_nonneg h1]
theorem i_rem {x y : Int} (h1 : 0 ≤ x) (h2 : x ≤ 2147483647) (h3 : 0 < y) (h4 : y ≤ 2147483647) : Int32.ofInt x - Int32.ofInt x / Int32.ofInt y * Int32.ofInt y = Int32.ofInt (x % y) := by
  rw [i_div h1 h2 h3 h4, ← Int32.ofInt_mul, ← Int32.ofInt_sub]
  congr 1
  have := Int.emod_def x y
  rw [this, Int.mul_comm]
/-! the rules -/
section Wps
variable {b L : Nat} {xs : Nat → Int32} {d : Nat} {M : MI} {pc nx : Nat} {ri : List Nat} {lv : List (Option Value)} {st : List Value} {h : AH} {Q : AH → RO → Prop}
theorem Wp.mono {Q' : AH → RO → Prop} (w : Wp b L xs d M pc lv st h Q) (k : ∀ h' o, Q h' o → Q' h' o) : Wp b L xs d M pc lv st h Q' := by
  obtain ⟨n, h', o, e, q⟩ := w
  exact ⟨n, h', o, e, k _ _ q⟩
theorem W_st {ins : Instr} {z : SR} (q : fet (mE M) pc = some (ins, nx, ri)) (hd : ∀ rc : RF, dpF b L xs rc d M pc ins nx ri lv st h = stF b L xs rc d M ins nx ri lv st h) (hs : stp b L xs (mL M) ins nx ri lv st h = some z) (k : Wp b L xs d M z.1 z.2.1 z.2.2.1 z.2.2.2 Q) : Wp b L xs d M pc lv st h Q := by
  obtain ⟨n, h', o, e, hq⟩ := k
  refine ⟨n + 1, h', o, ?_, hq⟩
  show (match fet (mE M) pc with | none => none | some q => dpF b L xs (rnF b L xs n) d M pc q.1 q.2.1 q.2.2 lv st h) = some (h', o)
  rw [q]
  show dpF b L xs (rnF b L xs n) d M pc ins nx ri lv st h = some (h', o)
  rw [hd]
  unfold stF
  rw [hs]
  exact e
theorem W_fi {ins : Instr} {v : Option Value} (q : fet (mE M) pc = some (ins, nx, ri)) (hd : ∀ rc : RF, dpF b L xs rc d M pc ins nx ri lv st h = fiF M ins st h) (hs : retV (mR M) ins st = some v) (k : Q h (.inl v)) : Wp b L xs d M pc lv st h Q := by
  refine ⟨1, h, .inl v, ?_, k⟩
  show (match fet (mE M) pc with | none => none | some q => dpF b L xs (rnF b L xs 0) d M pc q.1 q.2.1 q.2.2 lv st h) = _
  rw [q]
  show dpF b L xs (rnF b L xs 0) d M pc ins nx ri lv st h = _
  rw [hd]
  unfold fiF
  rw [hs]
theorem w_ireturn {x : Int} (q : fet (mE M) pc = some (.ireturn, nx, ri)) (hr : mR M = some .int) (k : Q h (.inl (some (vI x)))) : Wp b L xs d M pc lv [vI x] h Q := W_fi q (fun _ => rfl) (by rw [hr]; rfl) k
theorem w_zreturn {x : Int} (q : fet (mE M) pc = some (.ireturn, nx, ri)) (hr : mR M = some .boolean) (hx : x = 0 ∨ x = 1) (k : Q h (.inl (some (vI x)))) : Wp b L xs d M pc lv [vI x] h Q := W_fi q (fun _ => rfl) (by
  rw [hr]
  show (if Int32.ofInt x = 0 ∨ Int32.ofInt x = 1 then some (some (vI x)) else none) = _
  rw [if_pos]
  rcases hx with rfl | rfl
  · exact Or.inl rfl
  · exact Or.inr rfl) k
theorem w_lreturn {x : Int64} (q : fet (mE M) pc = some (.lreturn, nx, ri)) (hr : mR M = some .long) (k : Q h (.inl (some (.long x)))) : Wp b L xs d M pc lv [.long x] h Q := W_fi q (fun _ => rfl) (by rw [hr]; rfl) k
theorem w_areturn {a : Nat} {C : String} (q : fet (mE M) pc = some (.areturn, nx, ri)) (hr : mR M = some (.object C)) (k : Q h (.inl (some (.ref a)))) : Wp b L xs d M pc lv [.ref a] h Q := W_fi q (fun _ => rfl) (by rw [hr]; rfl) k
theorem w_areturnA {a : Nat} {C : FieldType} (q : fet (mE M) pc = some (.areturn, nx, ri)) (hr : mR M = some (.array C)) (k : Q h (.inl (some (.ref a)))) : Wp b L xs d M pc lv [.ref a] h Q := W_fi q (fun _ => rfl) (by rw [hr]; rfl) k
theorem w_areturnN {C : String} (q : fet (mE M) pc = some (.areturn, nx, ri)) (hr : mR M = some (.object C)) (k : Q h (.inl (some .null))) : Wp b L xs d M pc lv [.null] h Q := W_fi q (fun _ => rfl) (by rw [hr]; rfl) k
theorem w_areturnQ {x : Option Nat} {C : String} (q : fet (mE M) pc = some (.areturn, nx, ri)) (hr : mR M = some (.object C)) (k : Q h (.inl (some (va_rf x)))) : Wp b L xs d M pc lv [va_rf x] h Q := by
  cases x with
  | none => exact w_areturnN q hr k
  | some a => exact w_areturn q hr k
theorem w_return (q : fet (mE M) pc = some (.return_, nx, ri)) (hr : mR M = none) (k : Q h (.inl none)) : Wp b L xs d M pc lv [] h Q := W_fi q (fun _ => rfl) (by rw [hr]; rfl) k
theorem w_iconst {n : Int} (q : fet (mE M) pc = some (.iconst n, nx, ri)) (k : Wp b L xs d M nx lv (vI n :: st) h Q) : Wp b L xs d M pc lv st h Q := W_st q (fun _ => rfl) rfl k
theorem w_bipush {n : Int} (q : fet (mE M) pc = some (.bipush n, nx, ri)) (hn : (Int8.ofInt n).toInt32 = Int32.ofInt n) (k : Wp b L xs d M nx lv (vI n :: st) h Q) : Wp b L xs d M pc lv st h Q := W_st q (fun _ => rfl) (z := (nx, lv, vI n :: st, h)) (by show some (nx, lv, Value.int (Int8.ofInt n).toInt32 :: st, h) = _; rw [hn]) k
theorem w_sipush {n : Int} (q : fet (mE M) pc = some (.sipush n, nx, ri)) (hn : (Int16.ofInt n).toInt32 = Int32.ofInt n) (k : Wp b L xs d M nx lv (vI n :: st) h Q) : Wp b L xs d M pc lv st h Q := W_st q (fun _ => rfl) (z := (nx, lv, vI n :: st, h)) (by show some (nx, lv, Value.int (Int16.ofInt n).toInt32 :: st, h) = _; rw [hn]) k
theorem w_lconst {n : Fin 2} (q : fet (mE M) pc = some (.lconst n, nx, ri)) (k : Wp b L xs d M nx lv (.long (Int64.ofNat (n : Nat)) :: st) h Q) : Wp b L xs d M pc lv st h Q := W_st q (fun _ => rfl) rfl k
theorem w_aconst_null (q : fet (mE M) pc = some (.aconst_null, nx, ri)) (k : Wp b L xs d M nx lv (.null :: st) h Q) : Wp b L xs d M pc lv st h Q := W_st q (fun _ => rfl) rfl k
theorem w_ldc {i r : Nat} {z : Int} {w : String × Nat × Int32 × Nat} (q : fet (mE M) pc = some (.ldc i, nx, r :: ri)) (hw : KI[r]? = some w) (hz : w.2.2.1 = Int32.ofInt z) (k : Wp b L xs d M nx lv (vI z :: st) h Q) : Wp b L xs d M pc lv st h Q := W_st q (fun _ => rfl) (z := (nx, lv, vI z :: st, h)) (by
  show (match KI[r]? with | some q => some (nx, lv, Value.int q.2.2.1 :: st, h) | none => none) = _
  rw [hw]
  show some (nx, lv, Value.int w.2.2.1 :: st, h) = _
  rw [hz]) k
theorem w_ldc2 {i r : Nat} {w : String × Nat × Int64 × Nat} (q : fet (mE M) pc = some (.ldc2_w i, nx, r :: ri)) (hw : KJ[r]? = some w) (k : Wp b L xs d M nx lv (.long w.2.2.1 :: st) h Q) : Wp b L xs d M pc lv st h Q := W_st q (fun _ => rfl) (z := (nx, lv, .long w.2.2.1 :: st, h)) (by
  show (match KJ[r]? with | some q => some (nx, lv, Value.long q.2.2.1 :: st, h) | none => none) = _
  rw [hw]) k
theorem w_iload_n {i : Fin 4} {x : Int} (q : fet (mE M) pc = some (.iload_n i, nx, ri)) (hl : lv[(i : Nat)]? = some (some (vI x))) (k : Wp b L xs d M nx lv (vI x :: st) h Q) : Wp b L xs d M pc lv st h Q := W_st q (fun _ => rfl) (z := (nx, lv, vI x :: st, h)) (by show gI lv i _ = _; unfold gI; rw [hl]) k
theorem w_iload {i : Nat} {x : Int} (q : fet (mE M) pc = some (.iload i, nx, ri)) (hl : lv[i]? = some (some (vI x))) (k : Wp b L xs d M nx lv (vI x :: st) h Q) : Wp b L xs d M pc lv st h Q := W_st q (fun _ => rfl) (z := (nx, lv, vI x :: st, h)) (by show gI lv i _ = _; unfold gI; rw [hl]) k
theorem w_lload_n {i : Fin 4} {x : Int64} (q : fet (mE M) pc = some (.lload_n i, nx, ri)) (hl : lv[(i : Nat)]? = some (some (.long x))) (k : Wp b L xs d M nx lv (.long x :: st) h Q) : Wp b L xs d M pc lv st h Q := W_st q (fun _ => rfl) (z := (nx, lv, .long x :: st, h)) (by show gJ lv i _ = _; unfold gJ; rw [hl]) k
theorem w_lload {i : Nat} {x : Int64} (q : fet (mE M) pc = some (.lload i, nx, ri)) (hl : lv[i]? = some (some (.long x))) (k : Wp b L xs d M nx lv (.long x :: st) h Q) : Wp b L xs d M pc lv st h Q := W_st q (fun _ => rfl) (z := (nx, lv, .long x :: st, h)) (by show gJ lv i _ = _; unfold gJ; rw [hl]) k
theorem w_aload_n {i : Fin 4} {a : Nat} (q : fet (mE M) pc = some (.aload_n i, nx, ri)) (hl : lv[(i : Nat)]? = some (some (.ref a))) (k : Wp b L xs d M nx lv (.ref a :: st) h Q) : Wp b L xs d M pc lv st h Q := W_st q (fun _ => rfl) (z := (nx, lv, .ref a :: st, h)) (by show gQ lv i (fun x => some (nx, lv, va_rf x :: st, h)) = _; unfold gQ; rw [hl]; rfl) k
theorem w_aload {i : Nat} {a : Nat} (q : fet (mE M) pc = some (.aload i, nx, ri)) (hl : lv[i]? = some (some (.ref a))) (k : Wp b L xs d M nx lv (.ref a :: st) h Q) : Wp b L xs d M pc lv st h Q := W_st q (fun _ => rfl) (z := (nx, lv, .ref a :: st, h)) (by show gQ lv i (fun x => some (nx, lv, va_rf x :: st, h)) = _; unfold gQ; rw [hl]; rfl) k
theorem w_aload_nQ {i : Fin 4} {x : Option Nat} (q : fet (mE M) pc = some (.aload_n i, nx, ri)) (hl : lv[(i : Nat)]? = some (some (va_rf x))) (k : Wp b L xs d M nx lv (va_rf x :: st) h Q) : Wp b L xs d M pc lv st h Q := W_st q (fun _ => rfl) (z := (nx, lv, va_rf x :: st, h)) (by show gQ lv i (fun x => some (nx, lv, va_rf x :: st, h)) = _; unfold gQ; rw [hl]; cases x <;> rfl) k
theorem w_aloadQ {i : Nat} {x : Option Nat} (q : fet (mE M) pc = some (.aload i, nx, ri)) (hl : lv[i]? = some (some (va_rf x))) (k : Wp b L xs d M nx lv (va_rf x :: st) h Q) : Wp b L xs d M pc lv st h Q := W_st q (fun _ => rfl) (z := (nx, lv, va_rf x :: st, h)) (by show gQ lv i (fun x => some (nx, lv, va_rf x :: st, h)) = _; unfold gQ; rw [hl]; cases x <;> rfl) k
theorem w_istore_n {i : Fin 4} {x : Int} (q : fet (mE M) pc = some (.istore_n i, nx, ri)) (hl : (i : Nat) < mL M) (k : Wp b L xs d M nx (lv1 lv i (vI x)) st h Q) : Wp b L xs d M pc lv (vI x :: st) h Q := W_st q (fun _ => rfl) (z := (nx, lv1 lv i (vI x), st, h)) (by show iff' _ _ = _; unfold iff'; rw [if_pos hl]) k
theorem w_istore {i : Nat} {x : Int} (q : fet (mE M) pc = some (.istore i, nx, ri)) (hl : i < mL M) (k : Wp b L xs d M nx (lv1 lv i (vI x)) st h Q) : Wp b L xs d M pc lv (vI x :: st) h Q := W_st q (fun _ => rfl) (z := (nx, lv1 lv i (vI x), st, h)) (by show iff' _ _ = _; unfold iff'; rw [if_pos hl]) k
theorem w_lstore_n {i : Fin 4} {x : Int64} (q : fet (mE M) pc = some (.lstore_n i, nx, ri)) (hl : (i : Nat) + 1 < mL M) (k : Wp b L xs d M nx (lv2 lv i (.long x)) st h Q) : Wp b L xs d M pc lv (.long x :: st) h Q := W_st q (fun _ => rfl) (z := (nx, lv2 lv i (.long x), st, h)) (by show iff' _ _ = _; unfold iff'; rw [if_pos hl]) k
theorem w_lstore {i : Nat} {x : Int64} (q : fet (mE M) pc = some (.lstore i, nx, ri)) (hl : i + 1 < mL M) (k : Wp b L xs d M nx (lv2 lv i (.long x)) st h Q) : Wp b L xs d M pc lv (.long x :: st) h Q := W_st q (fun _ => rfl) (z := (nx, lv2 lv i (.long x), st, h)) (by show iff' _ _ = _; unfold iff'; rw [if_pos hl]) k
theorem w_astore_n {i : Fin 4} {a : Nat} (q : fet (mE M) pc = some (.astore_n i, nx, ri)) (hl : (i : Nat) < mL M) (k : Wp b L xs d M nx (lv1 lv i (.ref a)) st h Q) : Wp b L xs d M pc lv (.ref a :: st) h Q := W_st q (fun _ => rfl) (z := (nx, lv1 lv i (.ref a), st, h)) (by show iff' _ _ = _; unfold iff'; rw [if_pos hl]; rfl) k
theorem w_astore {i : Nat} {a : Nat} (q : fet (mE M) pc = some (.astore i, nx, ri)) (hl : i < mL M) (k : Wp b L xs d M nx (lv1 lv i (.ref a)) st h Q) : Wp b L xs d M pc lv (.ref a :: st) h Q := W_st q (fun _ => rfl) (z := (nx, lv1 lv i (.ref a), st, h)) (by show iff' _ _ = _; unfold iff'; rw [if_pos hl]; rfl) k
theorem w_astore_nQ {i : Fin 4} {x : Option Nat} (q : fet (mE M) pc = some (.astore_n i, nx, ri)) (hl : (i : Nat) < mL M) (k : Wp b L xs d M nx (lv1 lv i (va_rf x)) st h Q) : Wp b L xs d M pc lv (va_rf x :: st) h Q := W_st q (fun _ => rfl) (z := (nx, lv1 lv i (va_rf x), st, h)) (by cases x <;> (show iff' _ _ = _; unfold iff'; rw [if_pos hl])) k
theorem w_astoreQ {i : Nat} {x : Option Nat} (q : fet (mE M) pc = some (.astore i, nx, ri)) (hl : i < mL M) (k : Wp b L xs d M nx (lv1 lv i (va_rf x)) st h Q) : Wp b L xs d M pc lv (va_rf x :: st) h Q := W_st q (fun _ => rfl) (z := (nx, lv1 lv i (va_rf x), st, h)) (by cases x <;> (show iff' _ _ = _; unfold iff'; rw [if_pos hl])) k
theorem w_iinc {i : Nat} {n x : Int} (q : fet (mE M) pc = some (.iinc i n, nx, ri)) (hx : lv[i]? = some (some (vI x))) (hl : i < mL M) (k : Wp b L xs d M nx (lv1 lv i (vI (x + n))) st h Q) : Wp b L xs d M pc lv st h Q := W_st q (fun _ => rfl) (z := (nx, lv1 lv i (vI (x + n)), st, h)) (by show gI lv i _ = _; unfold gI; rw [hx]; show iff' _ _ = _; unfold iff'; rw [if_pos hl, vI, Int32.ofInt_add]) k
theorem w_iadd {x y : Int} (q : fet (mE M) pc = some (.iadd, nx, ri)) (k : Wp b L xs d M nx lv (vI (x + y) :: st) h Q) : Wp b L xs d M pc lv (vI y :: vI x :: st) h Q := W_st q (fun _ => rfl) (z := (nx, lv, vI (x + y) :: st, h)) (by show some (nx, lv, Value.int (Int32.ofInt x + Int32.ofInt y) :: st, h) = _; rw [← Int32.ofInt_add]) k
theorem w_isub {x y : Int} (q : fet (mE M) pc = some (.isub, nx, ri)) (k : Wp b L xs d M nx lv (vI (x - y) :: st) h Q) : Wp b L xs d M pc lv (vI y :: vI x :: st) h Q := W_st q (fun _ => rfl) (z := (nx, lv, vI (x - y) :: st, h)) (by show some (nx, lv, Value.int (Int32.ofInt x - Int32.ofInt y) :: st, h) = _; rw [← Int32.ofInt_sub]) k
theorem w_imul {x y : Int} (q : fet (mE M) pc = some (.imul, nx, ri)) (k : Wp b L xs d M nx lv (vI (x * y) :: st) h Q) : Wp b L xs d M pc lv (vI y :: vI x :: st) h Q := W_st q (fun _ => rfl) (z := (nx, lv, vI (x * y) :: st, h)) (by show some (nx, lv, Value.int (Int32.ofInt x * Int32.ofInt y) :: st, h) = _; rw [← Int32.ofInt_mul]) k
theorem w_idiv {x y : Int} (q : fet (mE M) pc = some (.idiv, nx, ri)) (h1 : 0 ≤ x) (h2 : x ≤ 2147483647) (h3 : 0 < y) (h4 : y ≤ 2147483647) (k : Wp b L xs d M nx lv (vI (x / y) :: st) h Q) : Wp b L xs d M pc lv (vI y :: vI x :: st) h Q := W_st q (fun _ => rfl) (z := (nx, lv, vI (x / y) :: st, h)) (by
  show iff' _ _ = _
  unfold iff'
  rw [if_pos (by rw [i_eq0 (by omega) h4]; omega), i_div h1 h2 h3 h4]) k
theorem w_irem {x y : Int} (q : fet (mE M) pc = some (.irem, nx, ri)) (h1 : 0 ≤ x) (h2 : x ≤ 2147483647) (h3 : 0 < y) (h4 : y ≤ 2147483647) (k : Wp b L xs d M nx lv (vI (x % y) :: st) h Q) : Wp b L xs d M pc lv (vI y :: vI x :: st) h Q := W_st q (fun _ => rfl) (z := (nx, lv, vI (x % y) :: st, h)) (by
  show iff' _ _ = _
  unfold iff'
  rw [if_pos (by rw [i_eq0 (by omega) h4]; omega), i_rem h1 h2 h3 h4]) k
/-- any other operation on ints, by its value -/
theorem w_op2 {ins : Instr} {x y z : Int} (q : fet (mE M) pc = some (ins, nx, ri)) (hd : ∀ rc : RF, dpF b L xs rc d M pc ins nx ri lv (vI y :: vI x :: st) h = stF b L xs rc d M ins nx ri lv (vI y :: vI x :: st) h) (hs : stp b L xs (mL M) ins nx ri lv (vI y :: vI x :: st) h = some (nx, lv, vI z :: st, h)) (k : Wp b L xs d M nx lv (vI z :: st) h Q) : Wp b L xs d M pc lv (vI y :: vI x :: st) h Q := W_st q hd hs k
theorem w_i2l {x : Int} (q : fet (mE M) pc = some (.i2l, nx, ri)) (k : Wp b L xs d M nx lv (.long (Int32.ofInt x).toInt64 :: st) h Q) : Wp b L xs d M pc lv (vI x :: st) h Q := W_st q (fun _ => rfl) rfl k
theorem w_l2i {x : Int64} (q : fet (mE M) pc = some (.l2i, nx, ri)) (k : Wp b L xs d M nx lv (.int x.toInt32 :: st) h Q) : Wp b L xs d M pc lv (.long x :: st) h Q := W_st q (fun _ => rfl) rfl k
theorem w_dup {v : Value} (q : fet (mE M) pc = some (.dup, nx, ri)) (hv : v.category = 1 ∧ p1 (v :: st) (fun v st => some (nx, lv, v :: v :: st, h)) = some (nx, lv, v :: v :: st, h)) (k : Wp b L xs d M nx lv (v :: v :: st) h Q) : Wp b L xs d M pc lv (v :: st) h Q := W_st q (fun _ => rfl) (z := (nx, lv, v :: v :: st, h)) hv.2 k
theorem w_dupI {x : Int} (q : fet (mE M) pc = some (.dup, nx, ri)) (k : Wp b L xs d M nx lv (vI x :: vI x :: st) h Q) : Wp b L xs d M pc lv (vI x :: st) h Q := W_st q (fun _ => rfl) rfl k
theorem w_dupR {a : Nat} (q : fet (mE M) pc = some (.dup, nx, ri)) (k : Wp b L xs d M nx lv (.ref a :: .ref a :: st) h Q) : Wp b L xs d M pc lv (.ref a :: st) h Q := W_st q (fun _ => rfl) rfl k
theorem w_popI {x : Int} (q : fet (mE M) pc = some (.pop, nx, ri)) (k : Wp b L xs d M nx lv st h Q) : Wp b L xs d M pc lv (vI x :: st) h Q := W_st q (fun _ => rfl) rfl k
theorem w_dup_x1 {x : Int} {a : Nat} (q : fet (mE M) pc = some (.dup_x1, nx, ri)) (k : Wp b L xs d M nx lv (vI x :: .ref a :: vI x :: st) h Q) : Wp b L xs d M pc lv (vI x :: .ref a :: st) h Q := W_st q (fun _ => rfl) rfl k
theorem w_dup_x2 {x y : Int} {a : Nat} (q : fet (mE M) pc = some (.dup_x2, nx, ri)) (k : Wp b L xs d M nx lv (vI x :: vI y :: .ref a :: vI x :: st) h Q) : Wp b L xs d M pc lv (vI x :: vI y :: .ref a :: st) h Q := W_st q (fun _ => rfl) rfl k
theorem w_dup2 {x : Int} {a : Nat} (q : fet (mE M) pc = some (.dup2, nx, ri)) (k : Wp b L xs d M nx lv (vI x :: .ref a :: vI x :: .ref a :: st) h Q) : Wp b L xs d M pc lv (vI x :: .ref a :: st) h Q := W_st q (fun _ => rfl) rfl k
theorem w_goto {o : Int} {t : Nat} (q : fet (mE M) pc = some (.goto o, nx, t :: ri)) (k : Wp b L xs d M t lv st h Q) : Wp b L xs d M pc lv st h Q := W_st q (fun _ => rfl) (z := (t, lv, st, h)) rfl k
theorem w_ifeq {o x : Int} {t : Nat} (q : fet (mE M) pc = some (.ifCond .eq o, nx, t :: ri)) (h1 : -2147483648 ≤ x) (h2 : x ≤ 2147483647) (kt : x = 0 → Wp b L xs d M t lv st h Q) (kf : ¬ (x = 0) → Wp b L xs d M nx lv st h Q) : Wp b L xs d M pc lv (vI x :: st) h Q := by
  by_cases hc : x = 0
  · exact W_st q (fun _ => rfl) (z := (t, lv, st, h)) (by show some ((if Int32.ofInt x = 0 then t else nx), lv, st, h) = _; rw [if_pos (by rw [i_eq0 h1 h2]; exact hc)]) (kt hc)
  · exact W_st q (fun _ => rfl) (z := (nx, lv, st, h)) (by show some ((if Int32.ofInt x = 0 then t else nx), lv, st, h) = _; rw [if_neg (by rw [i_eq0 h1 h2]; exact hc)]) (kf hc)
theorem w_ifeq_t {o x : Int} {t : Nat} (q : fet (mE M) pc = some (.ifCond .eq o, nx, t :: ri)) (h1 : -2147483648 ≤ x) (h2 : x ≤ 2147483647) (hc : x = 0) (kt : Wp b L xs d M t lv st h Q) : Wp b L xs d M pc lv (vI x :: st) h Q := w_ifeq q h1 h2 (fun _ => kt) (fun hn => absurd hc hn)
theorem w_ifeq_f {o x : Int} {t : Nat} (q : fet (mE M) pc = some (.ifCond .eq o, nx, t :: ri)) (h1 : -2147483648 ≤ x) (h2 : x ≤ 2147483647) (hc : ¬ (x = 0)) (kt : Wp b L xs d M nx lv st h Q) : Wp b L xs d M pc lv (vI x :: st) h Q := w_ifeq q h1 h2 (fun hn => absurd hn hc) (fun _ => kt)
theorem w_ifne {o x : Int} {t : Nat} (q : fet (mE M) pc = some (.ifCond .ne o, nx, t :: ri)) (h1 : -2147483648 ≤ x) (h2 : x ≤ 2147483647) (kt : x ≠ 0 → Wp b L xs d M t lv st h Q) (kf : ¬ (x ≠ 0) → Wp b L xs d M nx lv st h Q) : Wp b L xs d M pc lv (vI x :: st) h Q := by
  by_cases hc : x = 0
  · exact W_st q (fun _ => rfl) (z := (nx, lv, st, h)) (by show some ((if Int32.ofInt x = 0 then nx else t), lv, st, h) = _; rw [if_pos (by rw [i_eq0 h1 h2]; exact hc)]) (kf (fun h => h hc))
  · exact W_st q (fun _ => rfl) (z := (t, lv, st, h)) (by show some ((if Int32.ofInt x = 0 then nx else t), lv, st, h) = _; rw [if_neg (by rw [i_eq0 h1 h2]; exact hc)]) (kt hc)
theorem w_ifne_t {o x : Int} {t : Nat} (q : fet (mE M) pc = some (.ifCond .ne o, nx, t :: ri)) (h1 : -2147483648 ≤ x) (h2 : x ≤ 2147483647) (hc : x ≠ 0) (kt : Wp b L xs d M t lv st h Q) : Wp b L xs d M pc lv (vI x :: st) h Q := w_ifne q h1 h2 (fun _ => kt) (fun hn => absurd hc hn)
theorem w_ifne_f {o x : Int} {t : Nat} (q : fet (mE M) pc = some (.ifCond .ne o, nx, t :: ri)) (h1 : -2147483648 ≤ x) (h2 : x ≤ 2147483647) (hc : ¬ (x ≠ 0)) (kt : Wp b L xs d M nx lv st h Q) : Wp b L xs d M pc lv (vI x :: st) h Q := w_ifne q h1 h2 (fun hn => absurd hn hc) (fun _ => kt)
theorem w_iflt {o x : Int} {t : Nat} (q : fet (mE M) pc = some (.ifCond .lt o, nx, t :: ri)) (h1 : -2147483648 ≤ x) (h2 : x ≤ 2147483647) (kt : x < 0 → Wp b L xs d M t lv st h Q) (kf : ¬ (x < 0) → Wp b L xs d M nx lv st h Q) : Wp b L xs d M pc lv (vI x :: st) h Q := by
  by_cases hc : x < 0
  · exact W_st q (fun _ => rfl) (z := (t, lv, st, h)) (by show some ((if Int32.ofInt x < 0 then t else nx), lv, st, h) = _; rw [if_pos (by rw [i_zero, i_lt h1 h2 (by omega) (by omega)]; exact hc)]) (kt hc)
  · exact W_st q (fun _ => rfl) (z := (nx, lv, st, h)) (by show some ((if Int32.ofInt x < 0 then t else nx), lv, st, h) = _; rw [if_neg (by rw [i_zero, i_lt h1 h2 (by omega) (by omega)]; exact hc)]) (kf hc)
theorem w_iflt_t {o x : Int} {t : Nat} (q : fet (mE M) pc = some (.ifCond .lt o, nx, t :: ri)) (h1 : -2147483648 ≤ x) (h2 : x ≤ 2147483647) (hc : x < 0) (kt : Wp b L xs d M t lv st h Q) : Wp b L xs d M pc lv (vI x :: st) h Q := w_iflt q h1 h2 (fun _ => kt) (fun hn => absurd hc hn)
theorem w_iflt_f {o x : Int} {t : Nat} (q : fet (mE M) pc = some (.ifCond .lt o, nx, t :: ri)) (h1 : -2147483648 ≤ x) (h2 : x ≤ 2147483647) (hc : ¬ (x < 0)) (kt : Wp b L xs d M nx lv st h Q) : Wp b L xs d M pc lv (vI x :: st) h Q := w_iflt q h1 h2 (fun hn => absurd hn hc) (fun _ => kt)
theorem w_ifge {o x : Int} {t : Nat} (q : fet (mE M) pc = some (.ifCond .ge o, nx, t :: ri)) (h1 : -2147483648 ≤ x) (h2 : x ≤ 2147483647) (kt : 0 ≤ x → Wp b L xs d M t lv st h Q) (kf : ¬ (0 ≤ x) → Wp b L xs d M nx lv st h Q) : Wp b L xs d M pc lv (vI x :: st) h Q := by
  by_cases hc : 0 ≤ x
  · exact W_st q (fun _ => rfl) (z := (t, lv, st, h)) (by show some ((if 0 ≤ Int32.ofInt x then t else nx), lv, st, h) = _; rw [if_pos (by rw [i_zero, i_le (by omega) (by omega) h1 h2]; exact hc)]) (kt hc)
  · exact W_st q (fun _ => rfl) (z := (nx, lv, st, h)) (by show some ((if 0 ≤ Int32.ofInt x then t else nx), lv, st, h) = _; rw [if_neg (by rw [i_zero, i_le (by omega) (by omega) h1 h2]; exact hc)]) (kf hc)
theorem w_ifge_t {o x : Int} {t : Nat} (q : fet (mE M) pc = some (.ifCond .ge o, nx, t :: ri)) (h1 : -2147483648 ≤ x) (h2 : x ≤ 2147483647) (hc : 0 ≤ x) (kt : Wp b L xs d M t lv st h Q) : Wp b L xs d M pc lv (vI x :: st) h Q := w_ifge q h1 h2 (fun _ => kt) (fun hn => absurd hc hn)
theorem w_ifge_f {o x : Int} {t : Nat} (q : fet (mE M) pc = some (.ifCond .ge o, nx, t :: ri)) (h1 : -2147483648 ≤ x) (h2 : x ≤ 2147483647) (hc : ¬ (0 ≤ x)) (kt : Wp b L xs d M nx lv st h Q) : Wp b L xs d M pc lv (vI x :: st) h Q := w_ifge q h1 h2 (fun hn => absurd hn hc) (fun _ => kt)
theorem w_ifgt {o x : Int} {t : Nat} (q : fet (mE M) pc = some (.ifCond .gt o, nx, t :: ri)) (h1 : -2147483648 ≤ x) (h2 : x ≤ 2147483647) (kt : 0 < x → Wp b L xs d M t lv st h Q) (kf : ¬ (0 < x) → Wp b L xs d M nx lv st h Q) : Wp b L xs d M pc lv (vI x :: st) h Q := by
  by_cases hc : 0 < x
  · exact W_st q (fun _ => rfl) (z := (t, lv, st, h)) (by show some ((if 0 < Int32.ofInt x then t else nx), lv, st, h) = _; rw [if_pos (by rw [i_zero, i_lt (by omega) (by omega) h1 h2]; exact hc)]) (kt hc)
  · exact W_st q (fun _ => rfl) (z := (nx, lv, st, h)) (by show some ((if 0 < Int32.ofInt x then t else nx), lv, st, h) = _; rw [if_neg (by rw [i_zero, i_lt (by omega) (by omega) h1 h2]; exact hc)]) (kf hc)
theorem w_ifgt_t {o x : Int} {t : Nat} (q : fet (mE M) pc = some (.ifCond .gt o, nx, t :: ri)) (h1 : -2147483648 ≤ x) (h2 : x ≤ 2147483647) (hc : 0 < x) (kt : Wp b L xs d M t lv st h Q) : Wp b L xs d M pc lv (vI x :: st) h Q := w_ifgt q h1 h2 (fun _ => kt) (fun hn => absurd hc hn)
theorem w_ifgt_f {o x : Int} {t : Nat} (q : fet (mE M) pc = some (.ifCond .gt o, nx, t :: ri)) (h1 : -2147483648 ≤ x) (h2 : x ≤ 2147483647) (hc : ¬ (0 < x)) (kt : Wp b L xs d M nx lv st h Q) : Wp b L xs d M pc lv (vI x :: st) h Q := w_ifgt q h1 h2 (fun hn => absurd hn hc) (fun _ => kt)
theorem w_ifle {o x : Int} {t : Nat} (q : fet (mE M) pc = some (.ifCond .le o, nx, t :: ri)) (h1 : -2147483648 ≤ x) (h2 : x ≤ 2147483647) (kt : x ≤ 0 → Wp b L xs d M t lv st h Q) (kf : ¬ (x ≤ 0) → Wp b L xs d M nx lv st h Q) : Wp b L xs d M pc lv (vI x :: st) h Q := by
  by_cases hc : x ≤ 0
  · exact W_st q (fun _ => rfl) (z := (t, lv, st, h)) (by show some ((if Int32.ofInt x ≤ 0 then t else nx), lv, st, h) = _; rw [if_pos (by rw [i_zero, i_le h1 h2 (by omega) (by omega)]; exact hc)]) (kt hc)
  · exact W_st q (fun _ => rfl) (z := (nx, lv, st, h)) (by show some ((if Int32.ofInt x ≤ 0 then t else nx), lv, st, h) = _; rw [if_neg (by rw [i_zero, i_le h1 h2 (by omega) (by omega)]; exact hc)]) (kf hc)
theorem w_ifle_t {o x : Int} {t : Nat} (q : fet (mE M) pc = some (.ifCond .le o, nx, t :: ri)) (h1 : -2147483648 ≤ x) (h2 : x ≤ 2147483647) (hc : x ≤ 0) (kt : Wp b L xs d M t lv st h Q) : Wp b L xs d M pc lv (vI x :: st) h Q := w_ifle q h1 h2 (fun _ => kt) (fun hn => absurd hc hn)
theorem w_ifle_f {o x : Int} {t : Nat} (q : fet (mE M) pc = some (.ifCond .le o, nx, t :: ri)) (h1 : -2147483648 ≤ x) (h2 : x ≤ 2147483647) (hc : ¬ (x ≤ 0)) (kt : Wp b L xs d M nx lv st h Q) : Wp b L xs d M pc lv (vI x :: st) h Q := w_ifle q h1 h2 (fun hn => absurd hn hc) (fun _ => kt)
theorem w_iceq {o x y : Int} {t : Nat} (q : fet (mE M) pc = some (.if_icmp .eq o, nx, t :: ri)) (h1 : -2147483648 ≤ x) (h2 : x ≤ 2147483647) (h3 : -2147483648 ≤ y) (h4 : y ≤ 2147483647) (kt : x = y → Wp b L xs d M t lv st h Q) (kf : ¬ (x = y) → Wp b L xs d M nx lv st h Q) : Wp b L xs d M pc lv (vI y :: vI x :: st) h Q := by
  by_cases hc : x = y
  · exact W_st q (fun _ => rfl) (z := (t, lv, st, h)) (by show some ((if Int32.ofInt x = Int32.ofInt y then t else nx), lv, st, h) = _; rw [if_pos (by rw [i_eq h1 h2 h3 h4]; exact hc)]) (kt hc)
  · exact W_st q (fun _ => rfl) (z := (nx, lv, st, h)) (by show some ((if Int32.ofInt x = Int32.ofInt y then t else nx), lv, st, h) = _; rw [if_neg (by rw [i_eq h1 h2 h3 h4]; exact hc)]) (kf hc)
theorem w_iceq_t {o x y : Int} {t : Nat} (q : fet (mE M) pc = some (.if_icmp .eq o, nx, t :: ri)) (h1 : -2147483648 ≤ x) (h2 : x ≤ 2147483647) (h3 : -2147483648 ≤ y) (h4 : y ≤ 2147483647) (hc : x = y) (kt : Wp b L xs d M t lv st h Q) : Wp b L xs d M pc lv (vI y :: vI x :: st) h Q := w_iceq q h1 h2 h3 h4 (fun _ => kt) (fun hn => absurd hc hn)
theorem w_iceq_f {o x y : Int} {t : Nat} (q : fet (mE M) pc = some (.if_icmp .eq o, nx, t :: ri)) (h1 : -2147483648 ≤ x) (h2 : x ≤ 2147483647) (h3 : -2147483648 ≤ y) (h4 : y ≤ 2147483647) (hc : ¬ (x = y)) (kt : Wp b L xs d M nx lv st h Q) : Wp b L xs d M pc lv (vI y :: vI x :: st) h Q := w_iceq q h1 h2 h3 h4 (fun hn => absurd hn hc) (fun _ => kt)
theorem w_icne {o x y : Int} {t : Nat} (q : fet (mE M) pc = some (.if_icmp .ne o, nx, t :: ri)) (h1 : -2147483648 ≤ x) (h2 : x ≤ 2147483647) (h3 : -2147483648 ≤ y) (h4 : y ≤ 2147483647) (kt : x ≠ y → Wp b L xs d M t lv st h Q) (kf : ¬ (x ≠ y) → Wp b L xs d M nx lv st h Q) : Wp b L xs d M pc lv (vI y :: vI x :: st) h Q := by
  by_cases hc : x = y
  · exact W_st q (fun _ => rfl) (z := (nx, lv, st, h)) (by show some ((if Int32.ofInt x = Int32.ofInt y then nx else t), lv, st, h) = _; rw [if_pos (by rw [i_eq h1 h2 h3 h4]; exact hc)]) (kf (fun h => h hc))
  · exact W_st q (fun _ => rfl) (z := (t, lv, st, h)) (by show some ((if Int32.ofInt x = Int32.ofInt y then nx else t), lv, st, h) = _; rw [if_neg (by rw [i_eq h1 h2 h3 h4]; exact hc)]) (kt hc)
theorem w_icne_t {o x y : Int} {t : Nat} (q : fet (mE M) pc = some (.if_icmp .ne o, nx, t :: ri)) (h1 : -2147483648 ≤ x) (h2 : x ≤ 2147483647) (h3 : -2147483648 ≤ y) (h4 : y ≤ 2147483647) (hc : x ≠ y) (kt : Wp b L xs d M t lv st h Q) : Wp b L xs d M pc lv (vI y :: vI x :: st) h Q := w_icne q h1 h2 h3 h4 (fun _ => kt) (fun hn => absurd hc hn)
theorem w_icne_f {o x y : Int} {t : Nat} (q : fet (mE M) pc = some (.if_icmp .ne o, nx, t :: ri)) (h1 : -2147483648 ≤ x) (h2 : x ≤ 2147483647) (h3 : -2147483648 ≤ y) (h4 : y ≤ 2147483647) (hc : ¬ (x ≠ y)) (kt : Wp b L xs d M nx lv st h Q) : Wp b L xs d M pc lv (vI y :: vI x :: st) h Q := w_icne q h1 h2 h3 h4 (fun hn => absurd hn hc) (fun _ => kt)
theorem w_iclt {o x y : Int} {t : Nat} (q : fet (mE M) pc = some (.if_icmp .lt o, nx, t :: ri)) (h1 : -2147483648 ≤ x) (h2 : x ≤ 2147483647) (h3 : -2147483648 ≤ y) (h4 : y ≤ 2147483647) (kt : x < y → Wp b L xs d M t lv st h Q) (kf : ¬ (x < y) → Wp b L xs d M nx lv st h Q) : Wp b L xs d M pc lv (vI y :: vI x :: st) h Q := by
  by_cases hc : x < y
  · exact W_st q (fun _ => rfl) (z := (t, lv, st, h)) (by show some ((if Int32.ofInt x < Int32.ofInt y then t else nx), lv, st, h) = _; rw [if_pos (by rw [i_lt h1 h2 h3 h4]; exact hc)]) (kt hc)
  · exact W_st q (fun _ => rfl) (z := (nx, lv, st, h)) (by show some ((if Int32.ofInt x < Int32.ofInt y then t else nx), lv, st, h) = _; rw [if_neg (by rw [i_lt h1 h2 h3 h4]; exact hc)]) (kf hc)
theorem w_iclt_t {o x y : Int} {t : Nat} (q : fet (mE M) pc = some (.if_icmp .lt o, nx, t :: ri)) (h1 : -2147483648 ≤ x) (h2 : x ≤ 2147483647) (h3 : -2147483648 ≤ y) (h4 : y ≤ 2147483647) (hc : x < y) (kt : Wp b L xs d M t lv st h Q) : Wp b L xs d M pc lv (vI y :: vI x :: st) h Q := w_iclt q h1 h2 h3 h4 (fun _ => kt) (fun hn => absurd hc hn)
theorem w_iclt_f {o x y : Int} {t : Nat} (q : fet (mE M) pc = some (.if_icmp .lt o, nx, t :: ri)) (h1 : -2147483648 ≤ x) (h2 : x ≤ 2147483647) (h3 : -2147483648 ≤ y) (h4 : y ≤ 2147483647) (hc : ¬ (x < y)) (kt : Wp b L xs d M nx lv st h Q) : Wp b L xs d M pc lv (vI y :: vI x :: st) h Q := w_iclt q h1 h2 h3 h4 (fun hn => absurd hn hc) (fun _ => kt)
theorem w_icge {o x y : Int} {t : Nat} (q : fet (mE M) pc = some (.if_icmp .ge o, nx, t :: ri)) (h1 : -2147483648 ≤ x) (h2 : x ≤ 2147483647) (h3 : -2147483648 ≤ y) (h4 : y ≤ 2147483647) (kt : y ≤ x → Wp b L xs d M t lv st h Q) (kf : ¬ (y ≤ x) → Wp b L xs d M nx lv st h Q) : Wp b L xs d M pc lv (vI y :: vI x :: st) h Q := by
  by_cases hc : y ≤ x
  · exact W_st q (fun _ => rfl) (z := (t, lv, st, h)) (by show some ((if Int32.ofInt y ≤ Int32.ofInt x then t else nx), lv, st, h) = _; rw [if_pos (by rw [i_le h3 h4 h1 h2]; exact hc)]) (kt hc)
  · exact W_st q (fun _ => rfl) (z := (nx, lv, st, h)) (by show some ((if Int32.ofInt y ≤ Int32.ofInt x then t else nx), lv, st, h) = _; rw [if_neg (by rw [i_le h3 h4 h1 h2]; exact hc)]) (kf hc)
theorem w_icge_t {o x y : Int} {t : Nat} (q : fet (mE M) pc = some (.if_icmp .ge o, nx, t :: ri)) (h1 : -2147483648 ≤ x) (h2 : x ≤ 2147483647) (h3 : -2147483648 ≤ y) (h4 : y ≤ 2147483647) (hc : y ≤ x) (kt : Wp b L xs d M t lv st h Q) : Wp b L xs d M pc lv (vI y :: vI x :: st) h Q := w_icge q h1 h2 h3 h4 (fun _ => kt) (fun hn => absurd hc hn)
theorem w_icge_f {o x y : Int} {t : Nat} (q : fet (mE M) pc = some (.if_icmp .ge o, nx, t :: ri)) (h1 : -2147483648 ≤ x) (h2 : x ≤ 2147483647) (h3 : -2147483648 ≤ y) (h4 : y ≤ 2147483647) (hc : ¬ (y ≤ x)) (kt : Wp b L xs d M nx lv st h Q) : Wp b L xs d M pc lv (vI y :: vI x :: st) h Q := w_icge q h1 h2 h3 h4 (fun hn => absurd hn hc) (fun _ => kt)
theorem w_icgt {o x y : Int} {t : Nat} (q : fet (mE M) pc = some (.if_icmp .gt o, nx, t :: ri)) (h1 : -2147483648 ≤ x) (h2 : x ≤ 2147483647) (h3 : -2147483648 ≤ y) (h4 : y ≤ 2147483647) (kt : y < x → Wp b L xs d M t lv st h Q) (kf : ¬ (y < x) → Wp b L xs d M nx lv st h Q) : Wp b L xs d M pc lv (vI y :: vI x :: st) h Q := by
  by_cases hc : y < x
  · exact W_st q (fun _ => rfl) (z := (t, lv, st, h)) (by show some ((if Int32.ofInt y < Int32.ofInt x then t else nx), lv, st, h) = _; rw [if_pos (by rw [i_lt h3 h4 h1 h2]; exact hc)]) (kt hc)
  · exact W_st q (fun _ => rfl) (z := (nx, lv, st, h)) (by show some ((if Int32.ofInt y < Int32.ofInt x then t else nx), lv, st, h) = _; rw [if_neg (by rw [i_lt h3 h4 h1 h2]; exact hc)]) (kf hc)
theorem w_icgt_t {o x y : Int} {t : Nat} (q : fet (mE M) pc = some (.if_icmp .gt o, nx, t :: ri)) (h1 : -2147483648 ≤ x) (h2 : x ≤ 2147483647) (h3 : -2147483648 ≤ y) (h4 : y ≤ 2147483647) (hc : y < x) (kt : Wp b L xs d M t lv st h Q) : Wp b L xs d M pc lv (vI y :: vI x :: st) h Q := w_icgt q h1 h2 h3 h4 (fun _ => kt) (fun hn => absurd hc hn)
theorem w_icgt_f {o x y : Int} {t : Nat} (q : fet (mE M) pc = some (.if_icmp .gt o, nx, t :: ri)) (h1 : -2147483648 ≤ x) (h2 : x ≤ 2147483647) (h3 : -2147483648 ≤ y) (h4 : y ≤ 2147483647) (hc : ¬ (y < x)) (kt : Wp b L xs d M nx lv st h Q) : Wp b L xs d M pc lv (vI y :: vI x :: st) h Q := w_icgt q h1 h2 h3 h4 (fun hn => absurd hn hc) (fun _ => kt)
theorem w_icle {o x y : Int} {t : Nat} (q : fet (mE M) pc = some (.if_icmp .le o, nx, t :: ri)) (h1 : -2147483648 ≤ x) (h2 : x ≤ 2147483647) (h3 : -2147483648 ≤ y) (h4 : y ≤ 2147483647) (kt : x ≤ y → Wp b L xs d M t lv st h Q) (kf : ¬ (x ≤ y) → Wp b L xs d M nx lv st h Q) : Wp b L xs d M pc lv (vI y :: vI x :: st) h Q := by
  by_cases hc : x ≤ y
  · exact W_st q (fun _ => rfl) (z := (t, lv, st, h)) (by show some ((if Int32.ofInt x ≤ Int32.ofInt y then t else nx), lv, st, h) = _; rw [if_pos (by rw [i_le h1 h2 h3 h4]; exact hc)]) (kt hc)
  · exact W_st q (fun _ => rfl) (z := (nx, lv, st, h)) (by show some ((if Int32.ofInt x ≤ Int32.ofInt y then t else nx), lv, st, h) = _; rw [if_neg (by rw [i_le h1 h2 h3 h4]; exact hc)]) (kf hc)
theorem w_icle_t {o x y : Int} {t : Nat} (q : fet (mE M) pc = some (.if_icmp .le o, nx, t :: ri)) (h1 : -2147483648 ≤ x) (h2 : x ≤ 2147483647) (h3 : -2147483648 ≤ y) (h4 : y ≤ 2147483647) (hc : x ≤ y) (kt : Wp b L xs d M t lv st h Q) : Wp b L xs d M pc lv (vI y :: vI x :: st) h Q := w_icle q h1 h2 h3 h4 (fun _ => kt) (fun hn => absurd hc hn)
theorem w_icle_f {o x y : Int} {t : Nat} (q : fet (mE M) pc = some (.if_icmp .le o, nx, t :: ri)) (h1 : -2147483648 ≤ x) (h2 : x ≤ 2147483647) (h3 : -2147483648 ≤ y) (h4 : y ≤ 2147483647) (hc : ¬ (x ≤ y)) (kt : Wp b L xs d M nx lv st h Q) : Wp b L xs d M pc lv (vI y :: vI x :: st) h Q := w_icle q h1 h2 h3 h4 (fun hn => absurd hn hc) (fun _ => kt)
theorem w_ifnull_n {o : Int} {t : Nat} (q : fet (mE M) pc = some (.ifnull o, nx, t :: ri)) (k : Wp b L xs d M t lv st h Q) : Wp b L xs d M pc lv (.null :: st) h Q := W_st q (fun _ => rfl) (z := (t, lv, st, h)) rfl k
theorem w_ifnull_r {o : Int} {t a : Nat} (q : fet (mE M) pc = some (.ifnull o, nx, t :: ri)) (k : Wp b L xs d M nx lv st h Q) : Wp b L xs d M pc lv (.ref a :: st) h Q := W_st q (fun _ => rfl) (z := (nx, lv, st, h)) rfl k
theorem w_ifnull {o : Int} {t : Nat} {x : Option Nat} (q : fet (mE M) pc = some (.ifnull o, nx, t :: ri)) (kt : x = none → Wp b L xs d M t lv st h Q) (kf : ∀ a, x = some a → Wp b L xs d M nx lv st h Q) : Wp b L xs d M pc lv (va_rf x :: st) h Q := by
  cases x with
  | none => exact w_ifnull_n q (kt rfl)
  | some a => exact w_ifnull_r q (kf a rfl)
theorem w_ifnonnull_n {o : Int} {t : Nat} (q : fet (mE M) pc = some (.ifnonnull o, nx, t :: ri)) (k : Wp b L xs d M nx lv st h Q) : Wp b L xs d M pc lv (.null :: st) h Q := W_st q (fun _ => rfl) (z := (nx, lv, st, h)) rfl k
theorem w_ifnonnull_r {o : Int} {t a : Nat} (q : fet (mE M) pc = some (.ifnonnull o, nx, t :: ri)) (k : Wp b L xs d M t lv st h Q) : Wp b L xs d M pc lv (.ref a :: st) h Q := W_st q (fun _ => rfl) (z := (t, lv, st, h)) rfl k
theorem w_ifnonnull {o : Int} {t : Nat} {x : Option Nat} (q : fet (mE M) pc = some (.ifnonnull o, nx, t :: ri)) (kt : ∀ a, x = some a → Wp b L xs d M t lv st h Q) (kf : x = none → Wp b L xs d M nx lv st h Q) : Wp b L xs d M pc lv (va_rf x :: st) h Q := by
  cases x with
  | none => exact w_ifnonnull_n q (kf rfl)
  | some a => exact w_ifnonnull_r q (kt a rfl)
theorem w_aceq {o : Int} {t : Nat} {x y : Option Nat} (q : fet (mE M) pc = some (.if_acmp .eq o, nx, t :: ri)) (kt : x = y → Wp b L xs d M t lv st h Q) (kf : ¬ x = y → Wp b L xs d M nx lv st h Q) : Wp b L xs d M pc lv (va_rf y :: va_rf x :: st) h Q := by
  by_cases hc : x = y
  · exact W_st q (fun _ => rfl) (z := (t, lv, st, h)) (by rw [show stp b L xs (mL M) (.if_acmp .eq o) nx (t :: ri) lv (va_rf y :: va_rf x :: st) h = some ((if x = y then t else nx), lv, st, h) by cases x <;> cases y <;> rfl, if_pos hc]) (kt hc)
  · exact W_st q (fun _ => rfl) (z := (nx, lv, st, h)) (by rw [show stp b L xs (mL M) (.if_acmp .eq o) nx (t :: ri) lv (va_rf y :: va_rf x :: st) h = some ((if x = y then t else nx), lv, st, h) by cases x <;> cases y <;> rfl, if_neg hc]) (kf hc)
theorem w_acne {o : Int} {t : Nat} {x y : Option Nat} (q : fet (mE M) pc = some (.if_acmp .ne o, nx, t :: ri)) (kt : ¬ x = y → Wp b L xs d M t lv st h Q) (kf : x = y → Wp b L xs d M nx lv st h Q) : Wp b L xs d M pc lv (va_rf y :: va_rf x :: st) h Q := by
  by_cases hc : x = y
  · exact W_st q (fun _ => rfl) (z := (nx, lv, st, h)) (by rw [show stp b L xs (mL M) (.if_acmp .ne o) nx (t :: ri) lv (va_rf y :: va_rf x :: st) h = some ((if x = y then nx else t), lv, st, h) by cases x <;> cases y <;> rfl, if_pos hc]) (kf hc)
  · exact W_st q (fun _ => rfl) (z := (t, lv, st, h)) (by rw [show stp b L xs (mL M) (.if_acmp .ne o) nx (t :: ri) lv (va_rf y :: va_rf x :: st) h = some ((if x = y then nx else t), lv, st, h) by cases x <;> cases y <;> rfl, if_neg hc]) (kt hc)
theorem w_tsw {dflt lo hi x : Int} {o : Array Int} {t : Nat} (q : fet (mE M) pc = some (.tableswitch dflt lo hi o, nx, ri)) (h1 : -2147483648 ≤ x) (h2 : x ≤ 2147483647) (h3 : lo ≤ x) (h4 : x ≤ hi) (ht : ri[(x - lo).toNat + 1]? = some t) (k : Wp b L xs d M t lv st h Q) : Wp b L xs d M pc lv (vI x :: st) h Q := W_st q (fun _ => rfl) (z := (t, lv, st, h)) (by
  show (if (Int32.ofInt x).toInt < lo ∨ hi < (Int32.ofInt x).toInt then nI1 ri fun t => some (t, lv, st, h) else (ri[((Int32.ofInt x).toInt - lo).toNat + 1]?).bind fun t => some (t, lv, st, h)) = _
  rw [i_int h1 h2, if_neg (by omega), ht]
  rfl) k
theorem w_tswd {dflt lo hi x : Int} {o : Array Int} {t : Nat} (q : fet (mE M) pc = some (.tableswitch dflt lo hi o, nx, t :: ri)) (h1 : -2147483648 ≤ x) (h2 : x ≤ 2147483647) (h3 : x < lo ∨ hi < x) (k : Wp b L xs d M t lv st h Q) : Wp b L xs d M pc lv (vI x :: st) h Q := W_st q (fun _ => rfl) (z := (t, lv, st, h)) (by
  show (if (Int32.ofInt x).toInt < lo ∨ hi < (Int32.ofInt x).toInt then nI1 (t :: ri) fun t => some (t, lv, st, h) else ((t :: ri)[((Int32.ofInt x).toInt - lo).toNat + 1]?).bind fun t => some (t, lv, st, h)) = _
  rw [i_int h1 h2, if_pos h3]
  rfl) k
theorem w_getfield {i f ci fi a : Nat} {fs : List Value} {v : Value} (q : fet (mE M) pc = some (.getfield i, nx, f :: ci :: fi :: ri)) (ho : h.2.2 a = some (.inr (ci, fs))) (hv : fs[fi]? = some v) (k : Wp b L xs d M nx lv (v :: st) h Q) : Wp b L xs d M pc lv (.ref a :: st) h Q := W_st q (fun _ => rfl) (z := (nx, lv, v :: st, h)) (by
  show oI h a _ = _
  unfold oI
  rw [ho]
  show iff' _ _ = _
  unfold iff'
  rw [if_pos rfl, hv]
  rfl) k
theorem w_putfield {i f ci fi a : Nat} {fs : List Value} {v : Value} {ty : FieldType} (q : fet (mE M) pc = some (.putfield i, nx, f :: ci :: fi :: ri)) (ho : h.2.2 a = some (.inr (ci, fs))) (ht : (vty.getD ci [])[fi]? = some ty) (hv : fitv ty v = true) (k : Wp b L xs d M nx lv st (hput h a (.inr (ci, fs.set fi v))) Q) : Wp b L xs d M pc lv (v :: .ref a :: st) h Q := W_st q (fun _ => rfl) (z := (nx, lv, st, hput h a (.inr (ci, fs.set fi v)))) (by
  show oI h a _ = _
  unfold oI
  rw [ho]
  show iff' _ _ = _
  unfold iff'
  rw [if_pos rfl, ht]
  show iff' _ _ = _
  unfold iff'
  rw [if_pos hv]) k
theorem w_alen {a n : Nat} {ty : FieldType} {f : Nat → Value} (q : fet (mE M) pc = some (.arraylength, nx, ri)) (hb : a ≠ b) (ho : h.2.2 a = some (.inl (ty, n, f))) (k : Wp b L xs d M nx lv (vI n :: st) h Q) : Wp b L xs d M pc lv (.ref a :: st) h Q := W_st q (fun _ => rfl) (z := (nx, lv, vI n :: st, h)) (by
  show (if a = b then _ else aI h a _) = _
  rw [if_neg hb]
  unfold aI
  rw [ho, vI, Int32.ofInt_eq_ofNat]) k
theorem w_alenS (q : fet (mE M) pc = some (.arraylength, nx, ri)) (k : Wp b L xs d M nx lv (vI L :: st) h Q) : Wp b L xs d M pc lv (.ref b :: st) h Q := W_st q (fun _ => rfl) (z := (nx, lv, vI L :: st, h)) (by
  show (if b = b then _ else aI h b _) = _
  rw [if_pos rfl, vI, Int32.ofInt_eq_ofNat]) k
theorem w_ialoadS {i : Int} (q : fet (mE M) pc = some (.iaload, nx, ri)) (h1 : 0 ≤ i) (h2 : i < L) (h3 : L ≤ 2147483647) (k : Wp b L xs d M nx lv (vI (xs i.toNat).toInt :: st) h Q) : Wp b L xs d M pc lv (vI i :: .ref b :: st) h Q := W_st q (fun _ => rfl) (z := (nx, lv, vI (xs i.toNat).toInt :: st, h)) (by
  show (if b = b then bI _ L _ else aI h b _) = _
  rw [if_pos rfl]
  unfold bI
  rw [if_neg (i_in h1 h2 h3), i_clamp h1 (by omega), vI, Int32.ofInt_toInt]) k
theorem w_iaload {i : Int} {a n : Nat} {f : Nat → Value} (q : fet (mE M) pc = some (.iaload, nx, ri)) (hb : a ≠ b) (ho : h.2.2 a = some (.inl (.int, n, f))) (h1 : 0 ≤ i) (h2 : i < n) (h3 : n ≤ 2147483647) (k : Wp b L xs d M nx lv (f i.toNat :: st) h Q) : Wp b L xs d M pc lv (vI i :: .ref a :: st) h Q := W_st q (fun _ => rfl) (z := (nx, lv, f i.toNat :: st, h)) (by
  show (if a = b then bI _ L _ else aI h a _) = _
  rw [if_neg hb]
  unfold aI
  rw [ho]
  show bI _ _ _ = _
  unfold bI
  rw [if_neg (i_in h1 h2 h3), i_clamp h1 (by omega)]) k
theorem w_laload {i : Int} {a n : Nat} {f : Nat → Value} (q : fet (mE M) pc = some (.laload, nx, ri)) (ho : h.2.2 a = some (.inl (.long, n, f))) (h1 : 0 ≤ i) (h2 : i < n) (h3 : n ≤ 2147483647) (k : Wp b L xs d M nx lv (f i.toNat :: st) h Q) : Wp b L xs d M pc lv (vI i :: .ref a :: st) h Q := W_st q (fun _ => rfl) (z := (nx, lv, f i.toNat :: st, h)) (by
  show aI h a _ = _
  unfold aI
  rw [ho]
  show bI _ _ _ = _
  unfold bI
  rw [if_neg (i_in h1 h2 h3), i_clamp h1 (by omega)]) k
theorem w_baload {i : Int} {a n : Nat} {f : Nat → Value} {ty : FieldType} (q : fet (mE M) pc = some (.baload, nx, ri)) (ho : h.2.2 a = some (.inl (ty, n, f))) (hty : ty = .byte ∨ ty = .boolean) (h1 : 0 ≤ i) (h2 : i < n) (h3 : n ≤ 2147483647) (k : Wp b L xs d M nx lv (f i.toNat :: st) h Q) : Wp b L xs d M pc lv (vI i :: .ref a :: st) h Q := W_st q (fun _ => rfl) (z := (nx, lv, f i.toNat :: st, h)) (by
  show aI h a _ = _
  unfold aI
  rw [ho]
  rcases hty with rfl | rfl
  all_goals
    show bI _ _ _ = _
    unfold bI
    rw [if_neg (i_in h1 h2 h3), i_clamp h1 (by omega)]) k
theorem w_aaload {i : Int} {a n : Nat} {f : Nat → Value} {ty : FieldType} (q : fet (mE M) pc = some (.aaload, nx, ri)) (ho : h.2.2 a = some (.inl (ty, n, f))) (hty : (∃ C, ty = .object C) ∨ (∃ C, ty = .array C)) (h1 : 0 ≤ i) (h2 : i < n) (h3 : n ≤ 2147483647) (k : Wp b L xs d M nx lv (f i.toNat :: st) h Q) : Wp b L xs d M pc lv (vI i :: .ref a :: st) h Q := W_st q (fun _ => rfl) (z := (nx, lv, f i.toNat :: st, h)) (by
  show aI h a _ = _
  unfold aI
  rw [ho]
  rcases hty with ⟨C, rfl⟩ | ⟨C, rfl⟩
  all_goals
    show bI _ _ _ = _
    unfold bI
    rw [if_neg (i_in h1 h2 h3), i_clamp h1 (by omega)]) k
theorem w_iastore {i x : Int} {a n : Nat} {f : Nat → Value} (q : fet (mE M) pc = some (.iastore, nx, ri)) (ho : h.2.2 a = some (.inl (.int, n, f))) (h1 : 0 ≤ i) (h2 : i < n) (h3 : n ≤ 2147483647) (k : Wp b L xs d M nx lv st (hput h a (.inl (.int, n, updV f i.toNat (vI x)))) Q) : Wp b L xs d M pc lv (vI x :: vI i :: .ref a :: st) h Q := W_st q (fun _ => rfl) (z := (nx, lv, st, hput h a (.inl (.int, n, updV f i.toNat (vI x))))) (by
  show aI h a _ = _
  unfold aI
  rw [ho]
  show bI _ _ _ = _
  unfold bI
  rw [if_neg (i_in h1 h2 h3), i_clamp h1 (by omega)]) k
theorem w_lastore {i : Int} {x : Int64} {a n : Nat} {f : Nat → Value} (q : fet (mE M) pc = some (.lastore, nx, ri)) (ho : h.2.2 a = some (.inl (.long, n, f))) (h1 : 0 ≤ i) (h2 : i < n) (h3 : n ≤ 2147483647) (k : Wp b L xs d M nx lv st (hput h a (.inl (.long, n, updV f i.toNat (.long x)))) Q) : Wp b L xs d M pc lv (.long x :: vI i :: .ref a :: st) h Q := W_st q (fun _ => rfl) (z := (nx, lv, st, hput h a (.inl (.long, n, updV f i.toNat (.long x))))) (by
  show aI h a _ = _
  unfold aI
  rw [ho]
  show bI _ _ _ = _
  unfold bI
  rw [if_neg (i_in h1 h2 h3), i_clamp h1 (by omega)]) k
theorem w_bastore {i : Int} {x : Int32} {a n : Nat} {f : Nat → Value} {ty : FieldType} (q : fet (mE M) pc = some (.bastore, nx, ri)) (ho : h.2.2 a = some (.inl (ty, n, f))) (hty : ty = .byte ∨ ty = .boolean) (h1 : 0 ≤ i) (h2 : i < n) (h3 : n ≤ 2147483647) (k : Wp b L xs d M nx lv st (hput h a (.inl (ty, n, updV f i.toNat (narrow ty (.int x))))) Q) : Wp b L xs d M pc lv (.int x :: vI i :: .ref a :: st) h Q := W_st q (fun _ => rfl) (z := (nx, lv, st, hput h a (.inl (ty, n, updV f i.toNat (narrow ty (.int x)))))) (by
  show aI h a _ = _
  unfold aI
  rw [ho]
  rcases hty with rfl | rfl
  all_goals
    show bI _ _ _ = _
    unfold bI
    rw [if_neg (i_in h1 h2 h3), i_clamp h1 (by omega)]) k
theorem w_aastoreN {i : Int} {a n : Nat} {f : Nat → Value} {C : String} (q : fet (mE M) pc = some (.aastore, nx, ri)) (ho : h.2.2 a = some (.inl (.object C, n, f))) (h1 : 0 ≤ i) (h2 : i < n) (h3 : n ≤ 2147483647) (k : Wp b L xs d M nx lv st (hput h a (.inl (.object C, n, updV f i.toNat .null))) Q) : Wp b L xs d M pc lv (.null :: vI i :: .ref a :: st) h Q := W_st q (fun _ => rfl) (z := (nx, lv, st, hput h a (.inl (.object C, n, updV f i.toNat .null)))) (by
  show aI h a _ = _
  unfold aI
  rw [ho]
  show bI _ _ _ = _
  unfold bI
  rw [if_neg (i_in h1 h2 h3), i_clamp h1 (by omega)]) k
theorem w_aastore {i : Int} {a v cj n : Nat} {fs : List Value} {f : Nat → Value} {C : String} (q : fet (mE M) pc = some (.aastore, nx, ri)) (ho : h.2.2 a = some (.inl (.object C, n, f))) (hv : h.2.2 v = some (.inr (cj, fs))) (hC : (vcl[cj]?).map (fun q => q.1) = some C) (h1 : 0 ≤ i) (h2 : i < n) (h3 : n ≤ 2147483647) (k : Wp b L xs d M nx lv st (hput h a (.inl (.object C, n, updV f i.toNat (.ref v)))) Q) : Wp b L xs d M pc lv (.ref v :: vI i :: .ref a :: st) h Q := W_st q (fun _ => rfl) (z := (nx, lv, st, hput h a (.inl (.object C, n, updV f i.toNat (.ref v))))) (by
  show aI h a _ = _
  unfold aI
  rw [ho]
  show bI _ _ _ = _
  unfold bI
  rw [if_neg (i_in h1 h2 h3), i_clamp h1 (by omega)]
  show oI h v _ = _
  unfold oI
  rw [hv]
  show iff' _ _ = _
  unfold iff'
  rw [if_pos hC]) k
theorem w_newarray {n : Int} {at_ : ArrayType} {ty : FieldType} (q : fet (mE M) pc = some (.newarray at_, nx, ri)) (ht : newT at_ = some ty) (h1 : 0 ≤ n) (h2 : n ≤ 1000000) (k : Wp b L xs d M nx lv (.ref h.1 :: st) (hnew h (.inl (ty, n.toNat, fun _ => defaultValue ty)) n.toNat) Q) : Wp b L xs d M pc lv (vI n :: st) h Q := W_st q (fun _ => rfl) (z := (nx, lv, .ref h.1 :: st, hnew h (.inl (ty, n.toNat, fun _ => defaultValue ty)) n.toNat)) (by
  show (match newT at_ with | some ty => iff' _ _ | none => none) = _
  rw [ht]
  show iff' _ _ = _
  unfold iff'
  rw [if_pos (by rw [i_zero, i_lt (by omega) (by omega) (by omega) (by omega), i_clamp h1 (by omega)]; omega), i_clamp h1 (by omega)]) k
theorem w_anewarray {n : Int} {i t : Nat} {C : String} (q : fet (mE M) pc = some (.anewarray i, nx, t :: ri)) (ht : atys[t]? = some (.object C)) (h1 : 0 ≤ n) (h2 : n ≤ 1000000) (k : Wp b L xs d M nx lv (.ref h.1 :: st) (hnew h (.inl (.object C, n.toNat, fun _ => .null)) n.toNat) Q) : Wp b L xs d M pc lv (vI n :: st) h Q := W_st q (fun _ => rfl) (z := (nx, lv, .ref h.1 :: st, hnew h (.inl (.object C, n.toNat, fun _ => .null)) n.toNat)) (by
  show (match atys[t]? with | some (.object C) => iff' _ _ | _ => none) = _
  rw [ht]
  show iff' _ _ = _
  unfold iff'
  rw [if_pos (by rw [i_zero, i_lt (by omega) (by omega) (by omega) (by omega), i_clamp h1 (by omega)]; omega), i_clamp h1 (by omega)]) k
theorem w_new {i ci w : Nat} {ts : List FieldType} (q : fet (mE M) pc = some (.new i, nx, [ci, w])) (ht : vty[ci]? = some ts) (k : Wp b L xs d M nx lv (.ref h.1 :: st) (hnew h (.inr (ci, ts.map defaultValue)) ts.length) Q) : Wp b L xs d M pc lv st h Q := W_st q (fun _ => by unfold dpF; dsimp only; split <;> first | rfl | simp_all) (z := (nx, lv, .ref h.1 :: st, hnew h (.inr (ci, ts.map defaultValue)) ts.length)) (by
  show (match vty[ci]? with | some ts => some (nx, lv, Value.ref h.1 :: st, hnew h (.inr (ci, ts.map defaultValue)) ts.length) | none => none) = _
  rw [ht]) k
end Wps
end
section
/-! calls -/
theorem mt_0 : mt[0]? = some mi_0 := rfl
theorem mt_1 : mt[1]? = some mi_1 := rfl
theorem mt_2 : mt[2]? = some mi_2 := rfl
theorem mt_3 : mt[3]? = some mi_3 := rfl
theorem mt_4 : mt[4]? = some mi_4 := rfl
theorem mt_5 : mt[5]? = some mi_5 := rfl
theorem mt_6 : mt[6]? = some mi_6 := rfl
theorem mt_7 : mt[7]? = some mi_7 := rfl
theorem mt_8 : mt[8]? = some mi_8 := rfl
theorem mt_9 : mt[9]? = some mi_9 := rfl
theorem mt_10 : mt[10]? = some mi_10 := rfl
theorem mt_11 : mt[11]? = some mi_11 := rfl
theorem mt_12 : mt[12]? = some mi_12 := rfl
theorem mt_13 : mt[13]? = some mi_13 := rfl
theorem mt_14 : mt[14]? = some mi_14 := rfl
theorem mt_15 : mt[15]? = some mi_15 := rfl
theorem mt_16 : mt[16]? = some mi_16 := rfl
theorem mt_17 : mt[17]? = some mi_17 := rfl
theorem mt_18 : mt[18]? = some mi_18 := rfl
theorem mt_19 : mt[19]? = some mi_19 := rfl
theorem mt_20 : mt[20]? = some mi_20 := rfl
theorem mt_21 : mt[21]? = some mi_21 := rfl
theorem mt_22 : mt[22]? = some mi_22 := rfl
theorem mt_23 : mt[23]? = some mi_23 := rfl
theorem mt_24 : mt[24]? = some mi_24 := rfl
theorem mt_25 : mt[25]? = some mi_25 := rfl
theorem mt_26 : mt[26]? = some mi_26 := rfl
theorem mt_27 : mt[27]? = some mi_27 := rfl
theorem mt_28 : mt[28]? = some mi_28 := rfl
theorem mt_29 : mt[29]? = some mi_29 := rfl
theorem mt_30 : mt[30]? = some mi_30 := rfl
theorem mt_31 : mt[31]? = some mi_31 := rfl
theorem mt_32 : mt[32]? = some mi_32 := rfl
theorem mt_33 : mt[33]? = some mi_33 := rfl
theorem mt_34 : mt[34]? = some mi_34 := rfl
theorem mt_35 : mt[35]? = some mi_35 := rfl
theorem mt_36 : mt[36]? = some mi_36 := rfl
theorem mt_37 : mt[37]? = some mi_37 := rfl
theorem mt_38 : mt[38]? = some mi_38 := rfl
theorem mt_39 : mt[39]? = some mi_39 := rfl
theorem mt_40 : mt[40]? = some mi_40 := rfl
theorem mt_41 : mt[41]? = some mi_41 := rfl
theorem mt_42 : mt[42]? = some mi_42 := rfl
theorem mt_43 : mt[43]? = some mi_43 := rfl
theorem mt_44 : mt[44]? = some mi_44 := rfl
theorem mt_45 : mt[45]? = some mi_45 := rfl
theorem mt_46 : mt[46]? = some mi_46 := rfl
theorem mt_47 : mt[47]? = some mi_47 := rfl
theorem mt_48 : mt[48]? = some mi_48 := rfl
theorem mt_49 : mt[49]? = some mi_49 := rfl
theorem mt_50 : mt[50]? = some mi_50 := rfl
theorem mt_51 : mt[51]? = some mi_51 := rfl
theorem mt_52 : mt[52]? = some mi_52 := rfl
theorem mt_53 : mt[53]? = some mi_53 := rfl
theorem mt_54 : mt[54]? = some mi_54 := rfl
theorem mt_55 : mt[55]? = some mi_55 := rfl
theorem mt_56 : mt[56]? = some mi_56 := rfl
theorem mt_57 : mt[57]? = some mi_57 := rfl
theorem mt_58 : mt[58]? = some mi_58 := rfl
theorem mt_59 : mt[59]? = some mi_59 := rfl
theorem mt_60 : mt[60]? = some mi_60 := rfl
theorem mt_61 : mt[61]? = some mi_61 := rfl
theorem mt_62 : mt[62]? = some mi_62 := rfl
theorem mt_63 : mt[63]? = some mi_63 := rfl
theorem mt_64 : mt[64]? = some mi_64 := rfl
theorem mt_65 : mt[65]? = some mi_65 := rfl
theorem mt_66 : mt[66]? = some mi_66 := rfl
theorem mt_67 : mt[67]? = some mi_67 := rfl
theorem mt_68 : mt[68]? = some mi_68 := rfl
theorem mt_69 : mt[69]? = some mi_69 := rfl
theorem mt_70 : mt[70]? = some mi_70 := rfl
theorem mt_71 : mt[71]? = some mi_71 := rfl
theorem mt_72 : mt[72]? = some mi_72 := rfl
theorem mt_73 : mt[73]? = some mi_73 := rfl
theorem mt_74 : mt[74]? = some mi_74 := rfl
theorem mt_75 : mt[75]? = some mi_75 := rfl
theorem mt_76 : mt[76]? = some mi_76 := rfl
theorem mt_77 : mt[77]? = some mi_77 := rfl
theorem mt_78 : mt[78]? = some mi_78 := rfl
theorem mt_79 : mt[79]? = some mi_79 := rfl
theorem mt_80 : mt[80]? = some mi_80 := rfl
theorem mt_81 : mt[81]? = some mi_81 := rfl
theorem mt_82 : mt[82]? = some mi_82 := rfl
theorem mt_83 : mt[83]? = some mi_83 := rfl
theorem mt_84 : mt[84]? = some mi_84 := rfl
theorem mt_85 : mt[85]? = some mi_85 := rfl
theorem mt_86 : mt[86]? = some mi_86 := rfl
theorem mt_87 : mt[87]? = some mi_87 := rfl
theorem mt_88 : mt[88]? = some mi_88 := rfl
theorem mt_89 : mt[89]? = some mi_89 := rfl
theorem mt_90 : mt[90]? = some mi_90 := rfl
theorem mt_91 : mt[91]? = some mi_91 := rfl
theorem mt_92 : mt[92]? = some mi_92 := rfl
theorem mt_93 : mt[93]? = some mi_93 := rfl
theorem mt_94 : mt[94]? = some mi_94 := rfl
theorem mt_95 : mt[95]? = some mi_95 := rfl
theorem mt_96 : mt[96]? = some mi_96 := rfl
theorem mt_97 : mt[97]? = some mi_97 := rfl
theorem mt_98 : mt[98]? = some mi_98 := rfl
theorem mt_99 : mt[99]? = some mi_99 := rfl
theorem mt_100 : mt[100]? = some mi_100 := rfl
theorem mt_101 : mt[101]? = some mi_101 := rfl
theorem mt_102 : mt[102]? = some mi_102 := rfl
theorem mt_103 : mt[103]? = some mi_103 := rfl
theorem mt_104 : mt[104]? = some mi_104 := rfl
theorem mt_105 : mt[105]? = some mi_105 := rfl
theorem mt_106 : mt[106]? = some mi_106 := rfl
theorem mt_107 : mt[107]? = some mi_107 := rfl
theorem mt_108 : mt[108]? = some mi_108 := rfl
theorem mt_109 : mt[109]? = some mi_109 := rfl
theorem mt_110 : mt[110]? = some mi_110 := rfl
theorem mt_111 : mt[111]? = some mi_111 := rfl
theorem mt_112 : mt[112]? = some mi_112 := rfl
theorem mt_113 : mt[113]? = some mi_113 := rfl
theorem mt_114 : mt[114]? = some mi_114 := rfl
theorem mt_115 : mt[115]? = some mi_115 := rfl
theorem mt_116 : mt[116]? = some mi_116 := rfl
theorem mt_117 : mt[117]? = some mi_117 := rfl
theorem mt_118 : mt[118]? = some mi_118 := rfl
theorem mt_119 : mt[119]? = some mi_119 := rfl
theorem mt_120 : mt[120]? = some mi_120 := rfl
theorem mt_121 : mt[121]? = some mi_121 := rfl
theorem mt_122 : mt[122]? = some mi_122 := rfl
theorem mt_123 : mt[123]? = some mi_123 := rfl
theorem mt_124 : mt[124]? = some mi_124 := rfl
theorem mt_125 : mt[125]? = some mi_125 := rfl
theorem mt_126 : mt[126]? = some mi_126 := rfl
theorem mt_127 : mt[127]? = some mi_127 := rfl
theorem mt_128 : mt[128]? = some mi_128 := rfl
theorem mt_129 : mt[129]? = some mi_129 := rfl
theorem mt_130 : mt[130]? = some mi_130 := rfl
theorem mt_131 : mt[131]? = some mi_131 := rfl
theorem mt_132 : mt[132]? = some mi_132 := rfl
theorem mt_133 : mt[133]? = some mi_133 := rfl
theorem mt_134 : mt[134]? = some mi_134 := rfl
theorem mt_135 : mt[135]? = some mi_135 := rfl
theorem mt_136 : mt[136]? = some mi_136 := rfl
theorem mt_137 : mt[137]? = some mi_137 := rfl
theorem mt_138 : mt[138]? = some mi_138 := rfl
theorem mt_139 : mt[139]? = some mi_139 := rfl
theorem mt_140 : mt[140]? = some mi_140 := rfl
theorem mt_141 : mt[141]? = some mi_141 := rfl
theorem mt_142 : mt[142]? = some mi_142 := rfl
theorem mt_143 : mt[143]? = some mi_143 := rfl
theorem mt_144 : mt[144]? = some mi_144 := rfl
/-- a functional end -/
def Rt (h1 : AH) (v : Value) : AH → RO → Prop := fun h' o => h' = h1 ∧ o = .inl (some v)
def Rn (h1 : AH) : AH → RO → Prop := fun h' o => h' = h1 ∧ o = .inl none
section Wcs
variable {b L : Nat} {xs : Nat → Int32} {d : Nat} {M : MI} {pc nx : Nat} {ri : List Nat} {lv : List (Option Value)} {st : List Value} {h : AH} {Q : AH → RO → Prop}
theorem W_call {ins : Instr} {kd na k : Nat} {t : List Nat} {z : List Value × List Value} {y : Nat × List Value × List Value} {M' : MI} {Q1 : AH → RO → Prop} (q : fet (mE M) pc = some (ins, nx, kd :: na :: k :: t)) (hd : ∀ rc : RF, dpF b L xs rc d M pc ins nx (kd :: na :: k :: t) lv st h = cdF rc d M pc nx kd na k t lv st h) (h1 : 1 ≤ d) (hp : popN na st = some z) (ht : tgtM kd k t z.2 h = some y) (hm : mt[y.1]? = some M') (hl : ((y.2.1 ++ z.1).flatMap ent1).length ≤ mL M') (hw : wsum y.2.2 ≤ 8) (c : Wp b L xs (d - 1) M' 0 (ent (mL M') (y.2.1 ++ z.1)) [] h Q1) (kk : ∀ h1 o, Q1 h1 o → ∃ v, o = .inl v ∧ Wp b L xs d M nx lv (v.toList ++ y.2.2) h1 Q) : Wp b L xs d M pc lv st h Q := by
  obtain ⟨n, h2, o, e, hq⟩ := c
  obtain ⟨v, rfl, n2, h3, o3, e3, hq3⟩ := kk _ _ hq
  obtain ⟨d', rfl⟩ : ∃ d', d = d' + 1 := ⟨d - 1, by omega⟩
  refine ⟨max n n2 + 1, h3, o3, ?_, hq3⟩
  show (match fet (mE M) pc with | none => none | some q => dpF b L xs (rnF b L xs (max n n2)) (d' + 1) M pc q.1 q.2.1 q.2.2 lv st h) = some (h3, o3)
  rw [q]
  show dpF b L xs (rnF b L xs (max n n2)) (d' + 1) M pc ins nx (kd :: na :: k :: t) lv st h = some (h3, o3)
  rw [hd]
  unfold cdF
  rw [hp]
  dsimp only
  rw [ht]
  dsimp only
  rw [hm]
  dsimp only
  have e9 : rnF b L xs (max n n2) d' M' 0 (ent (mL M') (y.2.1 ++ z.1)) [] h = some (h2, .inl v) := rnF_mono (Nat.le_max_left n n2) _ _ _ _ _ _ _ e
  rw [if_pos ⟨hl, hw⟩, e9]
  exact rnF_mono (Nat.le_max_right n n2) _ _ _ _ _ _ _ e3
/-- a static call -/
theorem w_cs {i kd na k : Nat} {t : List Nat} {as rest : List Value} {M' : MI} {Q1 : AH → RO → Prop} (q : fet (mE M) pc = some (.invokestatic i, nx, kd :: na :: k :: t)) (hk : kd = 0 ∨ kd = 1 ∨ kd = 8) (h1 : 1 ≤ d) (hp : popN na st = some (as, rest)) (hm : mt[k]? = some M') (hl : (as.flatMap ent1).length ≤ mL M') (hw : wsum rest ≤ 8) (c : Wp b L xs (d - 1) M' 0 (ent (mL M') as) [] h Q1) (kk : ∀ h1 o, Q1 h1 o → ∃ v, o = .inl v ∧ Wp b L xs d M nx lv (v.toList ++ rest) h1 Q) : Wp b L xs d M pc lv st h Q := by
  refine W_call (y := (k, [], rest)) q ?_ h1 hp ?_ hm hl hw c kk
  · rcases hk with rfl | rfl | rfl <;> exact fun _ => rfl
  · rcases hk with rfl | rfl | rfl <;> rfl
theorem w_csV {i kd na k : Nat} {t : List Nat} {as rest : List Value} {M' : MI} {h1 : AH} {v : Value} (q : fet (mE M) pc = some (.invokestatic i, nx, kd :: na :: k :: t)) (hk : kd = 0 ∨ kd = 1 ∨ kd = 8) (hd : 1 ≤ d) (hp : popN na st = some (as, rest)) (hm : mt[k]? = some M') (hl : (as.flatMap ent1).length ≤ mL M') (hw : wsum rest ≤ 8) (c : Wp b L xs (d - 1) M' 0 (ent (mL M') as) [] h (Rt h1 v)) (kk : Wp b L xs d M nx lv (v :: rest) h1 Q) : Wp b L xs d M pc lv st h Q :=
  w_cs q hk hd hp hm hl hw c (fun _ _ ⟨e1, e2⟩ => ⟨some v, e2, by rw [e1]; exact kk⟩)
/-- a constructor's -/
theorem w_ci {i kd na k a : Nat} {t : List Nat} {as rest : List Value} {M' : MI} {Q1 : AH → RO → Prop} (q : fet (mE M) pc = some (.invokespecial i, nx, kd :: na :: k :: t)) (hk : kd = 4 ∨ kd = 5) (h1 : 1 ≤ d) (hp : popN na st = some (as, .ref a :: rest)) (hm : mt[k]? = some M') (hl : ((.ref a :: as).flatMap ent1).length ≤ mL M') (hw : wsum rest ≤ 8) (c : Wp b L xs (d - 1) M' 0 (ent (mL M') (.ref a :: as)) [] h Q1) (kk : ∀ h1 o, Q1 h1 o → ∃ v, o = .inl v ∧ Wp b L xs d M nx lv (v.toList ++ rest) h1 Q) : Wp b L xs d M pc lv st h Q := by
  refine W_call (y := (k, [.ref a], rest)) q ?_ h1 hp ?_ hm hl hw c kk
  · rcases hk with rfl | rfl <;> exact fun _ => rfl
  · rcases hk with rfl | rfl <;> rfl
theorem w_ciN {i kd na k a : Nat} {t : List Nat} {as rest : List Value} {M' : MI} {h1 : AH} (q : fet (mE M) pc = some (.invokespecial i, nx, kd :: na :: k :: t)) (hk : kd = 4 ∨ kd = 5) (hd : 1 ≤ d) (hp : popN na st = some (as, .ref a :: rest)) (hm : mt[k]? = some M') (hl : ((.ref a :: as).flatMap ent1).length ≤ mL M') (hw : wsum rest ≤ 8) (c : Wp b L xs (d - 1) M' 0 (ent (mL M') (.ref a :: as)) [] h (Rn h1)) (kk : Wp b L xs d M nx lv rest h1 Q) : Wp b L xs d M pc lv st h Q :=
  w_ci q hk hd hp hm hl hw c (fun _ _ ⟨e1, e2⟩ => ⟨none, e2, by rw [e1]; exact kk⟩)
/-- Object.<init> -/
theorem w_obj {i a : Nat} {t : List Nat} {rest : List Value} (q : fet (mE M) pc = some (.invokespecial i, nx, 10 :: t)) (h1 : 1 ≤ d) (hw : wsum rest ≤ 8) (kk : Wp b L xs d M nx lv rest h Q) : Wp b L xs d M pc lv (.ref a :: rest) h Q := by
  obtain ⟨n, h2, o, e, hq⟩ := kk
  refine ⟨n + 1, h2, o, ?_, hq⟩
  show (match fet (mE M) pc with | none => none | some q => dpF b L xs (rnF b L xs n) d M pc q.1 q.2.1 q.2.2 lv (.ref a :: rest) h) = some (h2, o)
  rw [q]
  show (if 1 ≤ d ∧ wsum rest ≤ 8 then rnF b L xs n d M nx lv rest h else none) = _
  rw [if_pos ⟨h1, hw⟩]
  exact e
/-- a virtual call on the class's own -/
theorem w_cv {i kd na k ci a : Nat} {t : List Nat} {as rest fs : List Value} {M' : MI} {Q1 : AH → RO → Prop} (q : fet (mE M) pc = some (.invokevirtual i, nx, kd :: na :: k :: ci :: t)) (hk : kd = 2 ∨ kd = 9) (h1 : 1 ≤ d) (hp : popN na st = some (as, .ref a :: rest)) (ho : h.2.2 a = some (.inr (ci, fs))) (hm : mt[k]? = some M') (hl : ((.ref a :: as).flatMap ent1).length ≤ mL M') (hw : wsum rest ≤ 8) (c : Wp b L xs (d - 1) M' 0 (ent (mL M') (.ref a :: as)) [] h Q1) (kk : ∀ h1 o, Q1 h1 o → ∃ v, o = .inl v ∧ Wp b L xs d M nx lv (v.toList ++ rest) h1 Q) : Wp b L xs d M pc lv st h Q := by
  refine W_call (y := (k, [.ref a], rest)) q ?_ h1 hp ?_ hm hl hw c kk
  · rcases hk with rfl | rfl <;> exact fun _ => rfl
  · rcases hk with rfl | rfl
    · rw [tgtM_2]
      dsimp only
      rw [ho]
      dsimp only
      rw [if_pos rfl]
    · rw [tgtM_9]
      dsimp only
      rw [ho]
      dsimp only
      rw [if_pos rfl]
theorem w_cvV {i kd na k ci a : Nat} {t : List Nat} {as rest fs : List Value} {M' : MI} {h1 : AH} {v : Value} (q : fet (mE M) pc = some (.invokevirtual i, nx, kd :: na :: k :: ci :: t)) (hk : kd = 2 ∨ kd = 9) (hd : 1 ≤ d) (hp : popN na st = some (as, .ref a :: rest)) (ho : h.2.2 a = some (.inr (ci, fs))) (hm : mt[k]? = some M') (hl : ((.ref a :: as).flatMap ent1).length ≤ mL M') (hw : wsum rest ≤ 8) (c : Wp b L xs (d - 1) M' 0 (ent (mL M') (.ref a :: as)) [] h (Rt h1 v)) (kk : Wp b L xs d M nx lv (v :: rest) h1 Q) : Wp b L xs d M pc lv st h Q :=
  w_cv q hk hd hp ho hm hl hw c (fun _ _ ⟨e1, e2⟩ => ⟨some v, e2, by rw [e1]; exact kk⟩)
theorem w_cvN {i kd na k ci a : Nat} {t : List Nat} {as rest fs : List Value} {M' : MI} {h1 : AH} (q : fet (mE M) pc = some (.invokevirtual i, nx, kd :: na :: k :: ci :: t)) (hk : kd = 2 ∨ kd = 9) (hd : 1 ≤ d) (hp : popN na st = some (as, .ref a :: rest)) (ho : h.2.2 a = some (.inr (ci, fs))) (hm : mt[k]? = some M') (hl : ((.ref a :: as).flatMap ent1).length ≤ mL M') (hw : wsum rest ≤ 8) (c : Wp b L xs (d - 1) M' 0 (ent (mL M') (.ref a :: as)) [] h (Rn h1)) (kk : Wp b L xs d M nx lv rest h1 Q) : Wp b L xs d M pc lv st h Q :=
  w_cv q hk hd hp ho hm hl hw c (fun _ _ ⟨e1, e2⟩ => ⟨none, e2, by rw [e1]; exact kk⟩)
/-- a call of the view's, on a tree or on what was restored -/
theorem w_ca1 {i na k k2 a : Nat} {t : List Nat} {as rest fs : List Value} {M' : MI} {Q1 : AH → RO → Prop} (q : fet (mE M) pc = some (.invokevirtual i, nx, 6 :: na :: k :: k2 :: t)) (h1 : 1 ≤ d) (hp : popN na st = some (as, .ref a :: rest)) (ho : h.2.2 a = some (.inr (1, fs))) (hm : mt[k]? = some M') (hl : ((.ref a :: as).flatMap ent1).length ≤ mL M') (hw : wsum rest ≤ 8) (c : Wp b L xs (d - 1) M' 0 (ent (mL M') (.ref a :: as)) [] h Q1) (kk : ∀ h1 o, Q1 h1 o → ∃ v, o = .inl v ∧ Wp b L xs d M nx lv (v.toList ++ rest) h1 Q) : Wp b L xs d M pc lv st h Q := by
  refine W_call (y := (k, [.ref a], rest)) q (fun _ => rfl) h1 hp ?_ hm hl hw c kk
  rw [tgtM_6]
  dsimp only
  rw [ho]
  rfl
theorem w_ca4 {i na k k2 a : Nat} {t : List Nat} {as rest fs : List Value} {M' : MI} {Q1 : AH → RO → Prop} (q : fet (mE M) pc = some (.invokevirtual i, nx, 6 :: na :: k :: k2 :: t)) (h1 : 1 ≤ d) (hp : popN na st = some (as, .ref a :: rest)) (ho : h.2.2 a = some (.inr (4, fs))) (hm : mt[k2]? = some M') (hl : ((.ref a :: as).flatMap ent1).length ≤ mL M') (hw : wsum rest ≤ 8) (c : Wp b L xs (d - 1) M' 0 (ent (mL M') (.ref a :: as)) [] h Q1) (kk : ∀ h1 o, Q1 h1 o → ∃ v, o = .inl v ∧ Wp b L xs d M nx lv (v.toList ++ rest) h1 Q) : Wp b L xs d M pc lv st h Q := by
  refine W_call (y := (k2, [.ref a], rest)) q (fun _ => rfl) h1 hp ?_ hm hl hw c kk
  rw [tgtM_6]
  dsimp only
  rw [ho]
  rfl
theorem w_max {i : Nat} {t : List Nat} {x y : Int} (q : fet (mE M) pc = some (.invokestatic i, nx, 11 :: t)) (h1 : 1 ≤ d) (hw : wsum st ≤ 8) (x1 : -2147483648 ≤ x) (x2 : x ≤ 2147483647) (y1 : -2147483648 ≤ y) (y2 : y ≤ 2147483647) (kk : Wp b L xs d M nx lv (vI (max x y) :: st) h Q) : Wp b L xs d M pc lv (vI y :: vI x :: st) h Q := by
  obtain ⟨n, h2, o, e, hq⟩ := kk
  refine ⟨n + 1, h2, o, ?_, hq⟩
  show (match fet (mE M) pc with | none => none | some q => dpF b L xs (rnF b L xs n) d M pc q.1 q.2.1 q.2.2 lv (vI y :: vI x :: st) h) = some (h2, o)
  rw [q]
  show (if 1 ≤ d ∧ wsum st ≤ 8 then rnF b L xs n d M nx lv (.int (if Int32.ofInt x < Int32.ofInt y then Int32.ofInt y else Int32.ofInt x) :: st) h else none) = _
  rw [if_pos ⟨h1, hw⟩, ← e]
  congr 2
  by_cases hc : x < y
  · rw [if_pos ((i_lt x1 x2 y1 y2).mpr hc), vI, Int.max_eq_right (by omega)]
  · rw [if_neg (fun z => hc ((i_lt x1 x2 y1 y2).mp z)), vI, Int.max_eq_left (by omega)]
theorem w_min {i : Nat} {t : List Nat} {x y : Int} (q : fet (mE M) pc = some (.invokestatic i, nx, 12 :: t)) (h1 : 1 ≤ d) (hw : wsum st ≤ 8) (x1 : -2147483648 ≤ x) (x2 : x ≤ 2147483647) (y1 : -2147483648 ≤ y) (y2 : y ≤ 2147483647) (kk : Wp b L xs d M nx lv (vI (min x y) :: st) h Q) : Wp b L xs d M pc lv (vI y :: vI x :: st) h Q := by
  obtain ⟨n, h2, o, e, hq⟩ := kk
  refine ⟨n + 1, h2, o, ?_, hq⟩
  show (match fet (mE M) pc with | none => none | some q => dpF b L xs (rnF b L xs n) d M pc q.1 q.2.1 q.2.2 lv (vI y :: vI x :: st) h) = some (h2, o)
  rw [q]
  show (if 1 ≤ d ∧ wsum st ≤ 8 then rnF b L xs n d M nx lv (.int (if Int32.ofInt y < Int32.ofInt x then Int32.ofInt y else Int32.ofInt x) :: st) h else none) = _
  rw [if_pos ⟨h1, hw⟩, ← e]
  congr 2
  by_cases hc : y < x
  · rw [if_pos ((i_lt y1 y2 x1 x2).mpr hc), vI, Int.min_eq_right (by omega)]
  · rw [if_neg (fun z => hc ((i_lt y1 y2 x1 x2).mp z)), vI, Int.min_eq_left (by omega)]
/-- an array of arrays -/
theorem w_multi {i j t w : Nat} {n k : Int} {ty : FieldType} (q : fet (mE M) pc = some (.multianewarray i j, nx, t :: w :: ri)) (ht : muT t = some ty) (hc : mchk M pc i nx w ty = true) (n1 : 0 ≤ n) (n2 : n ≤ 100000) (k1 : 0 ≤ k) (k2 : k ≤ 100000) (kk : Wp b L xs d M nx lv (.ref h.1 :: st) (hmul h ty n.toNat k.toNat) Q) : Wp b L xs d M pc lv (vI k :: vI n :: st) h Q := by
  obtain ⟨m, h2, o, e, hq⟩ := kk
  refine ⟨m + 1, h2, o, ?_, hq⟩
  show (match fet (mE M) pc with | none => none | some q => dpF b L xs (rnF b L xs m) d M pc q.1 q.2.1 q.2.2 lv (vI k :: vI n :: st) h) = some (h2, o)
  rw [q]
  show (match muT t with | some ty => muG (rnF b L xs m) d M pc i nx ty w lv (vI k :: vI n :: st) h | none => none) = _
  rw [ht]
  show (if _ then _ else none) = _
  rw [if_pos ⟨hc, by rw [i_zero, i_lt (by omega) (by omega) (by omega) (by omega)]; omega, by rw [i_zero, i_lt (by omega) (by omega) (by omega) (by omega)]; omega, by rw [i_clamp n1 (by omega)]; omega, by rw [i_clamp k1 (by omega)]; omega⟩, i_clamp n1 (by omega), i_clamp k1 (by omega)]
  exact e
/-- a throw -/
theorem w_throw {i E ic w : Nat} (q : fet (mE M) pc = some (.new i, nx, [50, E, ic, w])) (h1 : 5 < d) (hw : wsum st ≤ 8) (kk : Q (hskip h 6) (.inr E)) : Wp b L xs d M pc lv st h Q := by
  refine ⟨1, _, _, ?_, kk⟩
  show (match fet (mE M) pc with | none => none | some q => dpF b L xs (rnF b L xs 0) d M pc q.1 q.2.1 q.2.2 lv st h) = _
  rw [q]
  show (if 5 < d ∧ wsum st ≤ 8 then some (hskip h 6, (Sum.inr E : RO)) else none) = _
  rw [if_pos ⟨h1, hw⟩]
/-- a call whose callee throws, in a helper of the law: the handler stores what was thrown into the place p -/
theorem w_catch {i na k ci a E hp p nx2 : Nat} {t ri2 : List Nat} {ins2 : Instr} {as rest fs : List Value} {M' : MI} {h1 : AH} (q : fet (mE M) pc = some (.invokevirtual i, nx, 9 :: na :: k :: ci :: t)) (hd : 1 ≤ d) (hpo : popN na st = some (as, .ref a :: rest)) (ho : h.2.2 a = some (.inr (ci, fs))) (hm : mt[k]? = some M') (hl : ((.ref a :: as).flatMap ent1).length ≤ mL M') (hw : wsum rest ≤ 8) (c : Wp b L xs (d - 1) M' 0 (ent (mL M') (.ref a :: as)) [] h (fun h' o => h' = h1 ∧ o = .inr E))
    (hcl : (mY M).cls = "TapeVaultLaw") (hfh : fh (mH M) pc E = some hp) (hf : fet (mE M) hp = some (.astore p, nx2, ri2)) (hpL : p < mL M) (kk : Wp b L xs d M nx2 ((lv1 lv p .null).set p none) [] h1 Q) : Wp b L xs d M pc lv st h Q := by
  obtain ⟨n, h2, o, e, e1, e2⟩ := c
  subst e1 e2
  obtain ⟨n2, h3, o3, e3, hq3⟩ := kk
  obtain ⟨d', rfl⟩ : ∃ d', d = d' + 1 := ⟨d - 1, by omega⟩
  refine ⟨max n n2 + 1, h3, o3, ?_, hq3⟩
  show (match fet (mE M) pc with | none => none | some q => dpF b L xs (rnF b L xs (max n n2)) (d' + 1) M pc q.1 q.2.1 q.2.2 lv st h) = some (h3, o3)
  rw [q]
  show cdF (rnF b L xs (max n n2)) (d' + 1) M pc nx 9 na k (ci :: t) lv st h = some (h3, o3)
  unfold cdF
  rw [hpo]
  dsimp only
  rw [tgtM_9]
  dsimp only
  rw [ho]
  dsimp only
  rw [if_pos rfl]
  dsimp only
  rw [hm]
  dsimp only
  have e9 : rnF b L xs (max n n2) d' M' 0 (ent (mL M') ([.ref a] ++ as)) [] h = some (h2, .inr E) := rnF_mono (Nat.le_max_left n n2) _ _ _ _ _ _ _ e
  rw [if_pos ⟨hl, hw⟩, e9]
  dsimp only
  rw [if_pos rfl]
  unfold ctF
  rw [if_pos hcl, hfh]
  dsimp only
  rw [hf]
  dsimp only
  rw [if_pos hpL]
  exact rnF_mono (Nat.le_max_right n n2) _ _ _ _ _ _ _ e3
end Wcs
end
section
/-! the reference's object and arrays, as one function of its variables -/
abbrev RS : Type := (Nat → Int) × (Nat → Nat → Nat → Int)
def upF (ρ : RS) (k : Nat) (v : Int) : RS := (fun i => if i = k then v else ρ.1 i, ρ.2)
def upA (ρ : RS) (j r i : Nat) (v : Int) : RS := (ρ.1, fun j' r' i' => if j' = j ∧ r' = r ∧ i' = i then v else ρ.2 j' r' i')
theorem upF_2 (ρ : RS) (k : Nat) (v : Int) : (upF ρ k v).2 = ρ.2 := rfl
/-- a byte by its octet -/
def sb (z : Int) : Int := (z + 128) % 256 - 128
def vv (ty : FieldType) (x : Int) : Value := match ty with
  | .byte => vI (sb x)
  | _ => vI x
def mf (m0 : Nat) (ρ : RS) : List Value := [vI (ρ.1 0), .ref (m0 + 1), .ref (m0 + 2), .ref (m0 + 3), .ref (m0 + 4), .ref (m0 + 5), .ref (m0 + 6), vI (ρ.1 7), vI (ρ.1 8), vI (ρ.1 9), .ref (m0 + 263), .ref (m0 + 264), .ref (m0 + 265), .ref (m0 + 266), .ref (m0 + 267), .ref (m0 + 268), vI (ρ.1 16), .ref (m0 + 369), .ref (m0 + 370), .ref (m0 + 371), .ref (m0 + 372), .ref (m0 + 373), .ref (m0 + 374), .ref (m0 + 375), .ref (m0 + 376), .ref (m0 + 377), .ref (m0 + 378), vI (ρ.1 27), vI (ρ.1 28), vI (ρ.1 29), .ref (m0 + 379), .ref (m0 + 380), .ref (m0 + 381), .ref (m0 + 382), .ref (m0 + 383), .ref (m0 + 384), .ref (m0 + 385), .ref (m0 + 386), .ref (m0 + 387), .ref (m0 + 388), .ref (m0 + 645), .ref (m0 + 902), vI (ρ.1 42), vI (ρ.1 43), vI (ρ.1 44), vI (ρ.1 45), .ref (m0 + 1159), vI (ρ.1 47)]
/-- what lies at an offset: type, length, variable, row -/
def rlay (o : Nat) : Option (FieldType × Nat × Nat × Nat) :=
  if 1160 ≤ o then none else if o = 0 then none else if o ≤ 5 then some (.int, 256, o, 0) else if o = 6 then none else if o ≤ 262 then some (.byte, 512, 6, o - 7)
  else if o ≤ 265 then some (.int, 100, o - 253, 0) else if o ≤ 267 then some (.int, 101, o - 253, 0) else if o = 268 then none else if o ≤ 368 then some (.boolean, 256, 15, o - 269)
  else if o ≤ 375 then some (.int, 4000, o - 352, 0) else if o = 376 then some (.byte, 256000, 24, 0) else if o ≤ 378 then some (.int, 84000, o - 352, 0) else if o ≤ 380 then some (.boolean, 4001, o - 349, 0)
  else if o ≤ 386 then some (.int, 256, o - 349, 0) else if o = 387 then some (.boolean, 256, 38, 0) else if o = 388 then none else if o ≤ 644 then some (.byte, 512, 39, o - 389)
  else if o = 645 then none else if o ≤ 901 then some (.int, 256, 40, o - 646) else if o = 902 then none else if o ≤ 1158 then some (.int, 256, 41, o - 903) else if o = 1159 then some (.int, 64, 46, 0) else none
def rout (o : Nat) : Option (FieldType × Nat) := if o = 6 then some (.byte, 256) else if o = 268 then some (.boolean, 100) else if o = 388 then some (.byte, 256) else if o = 645 then some (.int, 256) else if o = 902 then some (.int, 256) else none
def radr (j r : Nat) : Nat := if j ≤ 5 then j else if j = 6 then 7 + r else if j ≤ 14 then j + 253 else if j = 15 then 269 + r else if j ≤ 26 then j + 352 else if j ≤ 38 then j + 349 else if j = 39 then 389 + r else if j = 40 then 646 + r else if j = 41 then 903 + r else 1159
theorem rlay_dec : ∀ o, o < 1160 → (match rlay o with | some q => decide (radr q.2.2.1 q.2.2.2 = o) && decide (q.2.1 ≤ 2147483647) | none => true) = true := by decide +kernel
theorem rlay_lt {o : Nat} {q : FieldType × Nat × Nat × Nat} (h : rlay o = some q) : o < 1160 := by
  by_cases e : 1160 ≤ o
  · unfold rlay at h
    rw [if_pos e] at h
    cases h
  · omega
theorem rlay_inv {o n j r : Nat} {ty : FieldType} (h : rlay o = some (ty, n, j, r)) : radr j r = o := by
  have := rlay_dec o (rlay_lt h)
  rw [h] at this
  simp only [Bool.and_eq_true, decide_eq_true_eq] at this
  exact this.1
theorem rlay_n {o n j r : Nat} {ty : FieldType} (h : rlay o = some (ty, n, j, r)) : n ≤ 2147483647 := by
  have := rlay_dec o (rlay_lt h)
  rw [h] at this
  simp only [Bool.and_eq_true, decide_eq_true_eq] at this
  exact this.2
theorem rout_N {o N : Nat} {ty : FieldType} (hl : rout o = some (ty, N)) : (o = 6 ∨ o = 268 ∨ o = 388 ∨ o = 645 ∨ o = 902) ∧ N ≤ 2147483647 := by
  unfold rout at hl
  by_cases e1 : o = 6
  · rw [if_pos e1] at hl; cases hl; exact ⟨Or.inl e1, by decide⟩
  rw [if_neg e1] at hl
  by_cases e2 : o = 268
  · rw [if_pos e2] at hl; cases hl; exact ⟨by omega, by decide⟩
  rw [if_neg e2] at hl
  by_cases e3 : o = 388
  · rw [if_pos e3] at hl; cases hl; exact ⟨by omega, by decide⟩
  rw [if_neg e3] at hl
  by_cases e4 : o = 645
  · rw [if_pos e4] at hl; cases hl; exact ⟨by omega, by decide⟩
  rw [if_neg e4] at hl
  by_cases e5 : o = 902
  · rw [if_pos e5] at hl; cases hl; exact ⟨by omega, by decide⟩
  rw [if_neg e5] at hl
  cases hl
def rcell (m0 : Nat) (ρ : RS) (o : Nat) : Option AO := match rlay o with
  | some (ty, n, j, r) => some (.inl (ty, n, fun i => vv ty (ρ.2 j r i)))
  | none => if o = 0 then some (.inr (7, mf m0 ρ)) else match rout o with
    | some (ty, N) => some (.inl (.array ty, N, fun j => if j < N then .ref (m0 + o + 1 + j) else .null))
    | none => none
/-- the heap with the reference's cells -/
def RH (m0 : Nat) (h : AH) (ρ : RS) : AH := (h.1, h.2.1, fun a => if m0 ≤ a ∧ a < m0 + 1160 then rcell m0 ρ (a - m0) else h.2.2 a)
theorem RH_at {m0 o : Nat} {h : AH} {ρ : RS} (ho : o < 1160) : (RH m0 h ρ).2.2 (m0 + o) = rcell m0 ρ o := by
  show (if m0 ≤ m0 + o ∧ m0 + o < m0 + 1160 then rcell m0 ρ (m0 + o - m0) else h.2.2 (m0 + o)) = _
  rw [if_pos ⟨by omega, by omega⟩, Nat.add_sub_cancel_left]
theorem RH_obj {m0 : Nat} {h : AH} {ρ : RS} : (RH m0 h ρ).2.2 m0 = some (.inr (7, mf m0 ρ)) := RH_at (o := 0) (by decide)
theorem RH_out {m0 a : Nat} {h : AH} {ρ : RS} (ho : a < m0 ∨ m0 + 1160 ≤ a) : (RH m0 h ρ).2.2 a = h.2.2 a := by
  show (if m0 ≤ a ∧ a < m0 + 1160 then rcell m0 ρ (a - m0) else h.2.2 a) = _
  rw [if_neg (by omega)]
theorem RH_arr {m0 o n j r : Nat} {ty : FieldType} {h : AH} {ρ : RS} (hl : rlay o = some (ty, n, j, r)) : (RH m0 h ρ).2.2 (m0 + o) = some (.inl (ty, n, fun i => vv ty (ρ.2 j r i))) := by
  rw [RH_at (rlay_lt hl)]
  unfold rcell
  rw [hl]
theorem RH_row {m0 o N : Nat} {ty : FieldType} {h : AH} {ρ : RS} (hl : rout o = some (ty, N)) : (RH m0 h ρ).2.2 (m0 + o) = some (.inl (.array ty, N, fun j => if j < N then .ref (m0 + o + 1 + j) else .null)) := by
  have h1 := (rout_N hl).1
  have h2 : rlay o = none ∧ o ≠ 0 ∧ o < 1160 := by
    rcases h1 with rfl | rfl | rfl | rfl | rfl <;> exact ⟨rfl, by decide, by decide⟩
  rw [RH_at h2.2.2]
  unfold rcell
  rw [h2.1]
  dsimp only
  rw [if_neg h2.2.1, hl]
theorem RH_putA {m0 o n j r i : Nat} {ty : FieldType} {x : Int} {h : AH} {ρ : RS} (hl : rlay o = some (ty, n, j, r)) : hput (RH m0 h ρ) (m0 + o) (.inl (ty, n, updV (fun i => vv ty (ρ.2 j r i)) i (vv ty x))) = RH m0 h (upA ρ j r i x) := by
  unfold hput RH
  dsimp only
  congr 2
  funext a
  unfold va_up
  by_cases e : a = m0 + o
  · subst e
    rw [if_pos rfl, if_pos ⟨by omega, by have := rlay_lt hl; omega⟩, Nat.add_sub_cancel_left]
    unfold rcell
    rw [hl]
    dsimp only
    congr 3
    congr 1
    funext k
    unfold updV upA
    dsimp only
    by_cases ek : k = i
    · rw [if_pos ek, if_pos ⟨rfl, rfl, ek⟩]
    · rw [if_neg ek, if_neg (fun z => ek z.2.2)]
  · rw [if_neg e]
    dsimp only
    by_cases ha : m0 ≤ a ∧ a < m0 + 1160
    · rw [if_pos ha, if_pos ha]
      unfold rcell
      cases hl' : rlay (a - m0) with
      | none => rfl
      | some q =>
        obtain ⟨ty', n', j', r'⟩ := q
        dsimp only
        congr 3
        congr 1
        funext k
        unfold upA
        dsimp only
        rw [if_neg]
        rintro ⟨rfl, rfl, -⟩
        have e1 := rlay_inv hl
        have e2 := rlay_inv hl'
        omega
    · rw [if_neg ha, if_neg ha]
theorem RH_putF {m0 k : Nat} {x : Int} {h : AH} {ρ : RS} (hk : (mf m0 ρ).set k (vI x) = mf m0 (upF ρ k x)) : hput (RH m0 h ρ) m0 (.inr (7, (mf m0 ρ).set k (vI x))) = RH m0 h (upF ρ k x) := by
  rw [hk]
  unfold hput RH
  dsimp only
  congr 2
  funext a
  unfold va_up
  by_cases e : a = m0
  · subst e
    rw [if_pos rfl, if_pos ⟨by omega, by omega⟩, Nat.sub_self]
    rfl
  · rw [if_neg e]
    dsimp only
    by_cases ha : m0 ≤ a ∧ a < m0 + 1160
    · rw [if_pos ha, if_pos ha]
      unfold rcell
      cases hl' : rlay (a - m0) with
      | none =>
        dsimp only
        rw [if_neg (by omega), if_neg (by omega)]
      | some q => rfl
    · rw [if_neg ha, if_neg ha]
theorem sb_mod (z : Int) : sb z % 256 = z % 256 := by unfold sb; omega
theorem sb_of_mod (z : Int) : sb (z % 256) = sb z := by unfold sb; omega
theorem sb_sb (z : Int) : sb (sb z) = sb z := by unfold sb; omega
theorem i_bmod8 (z : Int) : z.bmod (2 ^ 8) = sb z := by
  rw [Int.bmod_def]
  unfold sb
  split <;> omega
theorem sb_lo (z : Int) : -128 ≤ sb z := by unfold sb; omega
theorem sb_hi (z : Int) : sb z ≤ 127 := by unfold sb; omega
theorem i_byte (z : Int) : (Int32.ofInt z).toInt8.toInt32 = Int32.ofInt (sb z) := by
  have h1 := sb_lo z
  have h2 := sb_hi z
  rw [← Int32.toInt_inj, i_int (by omega) (by omega), Int8.toInt_toInt32, Int32.toInt_toInt8, Int32.toInt_ofInt, Int.bmod_bmod_of_dvd (by decide), i_bmod8]
section Wrs
variable {b L : Nat} {xs : Nat → Int32} {d : Nat} {M : MI} {pc nx : Nat} {ri : List Nat} {lv : List (Option Value)} {st : List Value} {m0 : Nat} {h : AH} {ρ : RS} {Q : AH → RO → Prop}
theorem w_i2b {x : Int} {h : AH} (q : fet (mE M) pc = some (.i2b, nx, ri)) (k : Wp b L xs d M nx lv (vI (sb x) :: st) h Q) : Wp b L xs d M pc lv (vI x :: st) h Q := W_st q (fun _ => rfl) (z := (nx, lv, vI (sb x) :: st, h)) (by
  show some (nx, lv, Value.int (Int32.ofInt x).toInt8.toInt32 :: st, h) = _
  rw [i_byte]) k
theorem m_get {i f fi : Nat} {v : Value} (q : fet (mE M) pc = some (.getfield i, nx, f :: 7 :: fi :: ri)) (hv : (mf m0 ρ)[fi]? = some v) (k : Wp b L xs d M nx lv (v :: st) (RH m0 h ρ) Q) : Wp b L xs d M pc lv (.ref m0 :: st) (RH m0 h ρ) Q := w_getfield q RH_obj hv k
theorem m_put {i f fi : Nat} {x : Int} {ty : FieldType} (q : fet (mE M) pc = some (.putfield i, nx, f :: 7 :: fi :: ri)) (ht : (vty.getD 7 [])[fi]? = some ty) (hv : fitv ty (vI x) = true) (hk : (mf m0 ρ).set fi (vI x) = mf m0 (upF ρ fi x)) (k : Wp b L xs d M nx lv st (RH m0 h (upF ρ fi x)) Q) : Wp b L xs d M pc lv (vI x :: .ref m0 :: st) (RH m0 h ρ) Q := w_putfield q RH_obj ht hv (by rw [RH_putF hk]; exact k)
theorem m_iaload {i : Int} {o n j r : Nat} (q : fet (mE M) pc = some (.iaload, nx, ri)) (hb : b < m0) (hl : rlay o = some (.int, n, j, r)) (h1 : 0 ≤ i) (h2 : i < n) (k : Wp b L xs d M nx lv (vI (ρ.2 j r i.toNat) :: st) (RH m0 h ρ) Q) : Wp b L xs d M pc lv (vI i :: .ref (m0 + o) :: st) (RH m0 h ρ) Q := w_iaload q (by omega) (RH_arr hl) h1 h2 (rlay_n hl) k
theorem m_zaload {i : Int} {o n j r : Nat} (q : fet (mE M) pc = some (.baload, nx, ri)) (hl : rlay o = some (.boolean, n, j, r)) (h1 : 0 ≤ i) (h2 : i < n) (k : Wp b L xs d M nx lv (vI (ρ.2 j r i.toNat) :: st) (RH m0 h ρ) Q) : Wp b L xs d M pc lv (vI i :: .ref (m0 + o) :: st) (RH m0 h ρ) Q := w_baload q (RH_arr hl) (Or.inr rfl) h1 h2 (rlay_n hl) k
theorem m_baload {i : Int} {o n j r : Nat} (q : fet (mE M) pc = some (.baload, nx, ri)) (hl : rlay o = some (.byte, n, j, r)) (h1 : 0 ≤ i) (h2 : i < n) (k : Wp b L xs d M nx lv (vI (sb (ρ.2 j r i.toNat)) :: st) (RH m0 h ρ) Q) : Wp b L xs d M pc lv (vI i :: .ref (m0 + o) :: st) (RH m0 h ρ) Q := w_baload q (RH_arr hl) (Or.inl rfl) h1 h2 (rlay_n hl) k
theorem m_aaload {i : Int} {o N : Nat} {ty : FieldType} (q : fet (mE M) pc = some (.aaload, nx, ri)) (hl : rout o = some (ty, N)) (h1 : 0 ≤ i) (h2 : i < N) (k : Wp b L xs d M nx lv (.ref (m0 + (o + 1 + i.toNat)) :: st) (RH m0 h ρ) Q) : Wp b L xs d M pc lv (vI i :: .ref (m0 + o) :: st) (RH m0 h ρ) Q := w_aaload q (RH_row hl) (Or.inr ⟨_, rfl⟩) h1 h2 (rout_N hl).2 (by
  show Wp b L xs d M nx lv ((if i.toNat < N then Value.ref (m0 + o + 1 + i.toNat) else .null) :: st) (RH m0 h ρ) Q
  rw [if_pos (by omega), Nat.add_assoc m0 o 1, Nat.add_assoc m0 (o + 1)]
  exact k)
theorem m_iastore {i x : Int} {o n j r : Nat} (q : fet (mE M) pc = some (.iastore, nx, ri)) (hl : rlay o = some (.int, n, j, r)) (h1 : 0 ≤ i) (h2 : i < n) (k : Wp b L xs d M nx lv st (RH m0 h (upA ρ j r i.toNat x)) Q) : Wp b L xs d M pc lv (vI x :: vI i :: .ref (m0 + o) :: st) (RH m0 h ρ) Q := w_iastore q (RH_arr hl) h1 h2 (rlay_n hl) (by
  rw [← RH_putA hl] at k
  exact k)
theorem m_bastore {i x : Int} {o n j r : Nat} (q : fet (mE M) pc = some (.bastore, nx, ri)) (hl : rlay o = some (.byte, n, j, r)) (h1 : 0 ≤ i) (h2 : i < n) (k : Wp b L xs d M nx lv st (RH m0 h (upA ρ j r i.toNat (x % 256))) Q) : Wp b L xs d M pc lv (vI x :: vI i :: .ref (m0 + o) :: st) (RH m0 h ρ) Q := w_bastore q (RH_arr hl) (Or.inl rfl) h1 h2 (rlay_n hl) (by
  rw [← RH_putA hl] at k
  have e : narrow .byte (.int (Int32.ofInt x)) = vv .byte (x % 256) := by
    show Value.int (Int32.ofInt x).toInt8.toInt32 = vI (sb (x % 256))
    rw [i_byte, sb_of_mod]
  rw [e]
  exact k)
theorem m_zastore {i x : Int} {o n j r : Nat} (q : fet (mE M) pc = some (.bastore, nx, ri)) (hl : rlay o = some (.boolean, n, j, r)) (h1 : 0 ≤ i) (h2 : i < n) (hx : x = 0 ∨ x = 1) (k : Wp b L xs d M nx lv st (RH m0 h (upA ρ j r i.toNat x)) Q) : Wp b L xs d M pc lv (vI x :: vI i :: .ref (m0 + o) :: st) (RH m0 h ρ) Q := w_bastore q (RH_arr hl) (Or.inr rfl) h1 h2 (rlay_n hl) (by
  rw [← RH_putA hl] at k
  have e : narrow .boolean (.int (Int32.ofInt x)) = vv .boolean x := by
    rcases hx with rfl | rfl <;> rfl
  rw [e]
  exact k)
end Wrs
end
section
/-! the reference's readers -/
def Rg (ρ : RS) : Prop := (∀ k, -2147483648 ≤ ρ.1 k ∧ ρ.1 k ≤ 2147483647) ∧ (∀ j r i, -2147483648 ≤ ρ.2 j r i ∧ ρ.2 j r i ≤ 2147483647)
theorem rlay_r6 {r : Nat} (h : r < 256) : rlay (6 + 1 + r) = some (.byte, 512, 6, r) := by
  unfold rlay
  simp only [show ¬ 1160 ≤ 6 + 1 + r by omega, show ¬ 6 + 1 + r = 0 by omega, show ¬ 6 + 1 + r ≤ 5 by omega, show ¬ 6 + 1 + r = 6 by omega, show 6 + 1 + r ≤ 262 by omega, if_true, if_false, show 6 + 1 + r - 7 = r by omega]
theorem rlay_r15 {r : Nat} (h : r < 100) : rlay (268 + 1 + r) = some (.boolean, 256, 15, r) := by
  unfold rlay
  simp only [show ¬ 1160 ≤ 268 + 1 + r by omega, show ¬ 268 + 1 + r = 0 by omega, show ¬ 268 + 1 + r ≤ 5 by omega, show ¬ 268 + 1 + r = 6 by omega, show ¬ 268 + 1 + r ≤ 262 by omega, show ¬ 268 + 1 + r ≤ 265 by omega, show ¬ 268 + 1 + r ≤ 267 by omega, show ¬ 268 + 1 + r = 268 by omega, show 268 + 1 + r ≤ 368 by omega, if_true, if_false, show 268 + 1 + r - 269 = r by omega]
theorem rlay_r39 {r : Nat} (h : r < 256) : rlay (388 + 1 + r) = some (.byte, 512, 39, r) := by
  unfold rlay
  simp only [show ¬ 1160 ≤ 388 + 1 + r by omega, show ¬ 388 + 1 + r = 0 by omega, show ¬ 388 + 1 + r ≤ 5 by omega, show ¬ 388 + 1 + r = 6 by omega, show ¬ 388 + 1 + r ≤ 262 by omega, show ¬ 388 + 1 + r ≤ 265 by omega, show ¬ 388 + 1 + r ≤ 267 by omega, show ¬ 388 + 1 + r = 268 by omega, show ¬ 388 + 1 + r ≤ 368 by omega, show ¬ 388 + 1 + r ≤ 375 by omega, show ¬ 388 + 1 + r = 376 by omega, show ¬ 388 + 1 + r ≤ 378 by omega, show ¬ 388 + 1 + r ≤ 380 by omega, show ¬ 388 + 1 + r ≤ 386 by omega, show ¬ 388 + 1 + r = 387 by omega, show ¬ 388 + 1 + r = 388 by omega, show 388 + 1 + r ≤ 644 by omega, if_true, if_false, show 388 + 1 + r - 389 = r by omega]
theorem rlay_r40 {r : Nat} (h : r < 256) : rlay (645 + 1 + r) = some (.int, 256, 40, r) := by
  unfold rlay
  simp only [show ¬ 1160 ≤ 645 + 1 + r by omega, show ¬ 645 + 1 + r = 0 by omega, show ¬ 645 + 1 + r ≤ 5 by omega, show ¬ 645 + 1 + r = 6 by omega, show ¬ 645 + 1 + r ≤ 262 by omega, show ¬ 645 + 1 + r ≤ 265 by omega, show ¬ 645 + 1 + r ≤ 267 by omega, show ¬ 645 + 1 + r = 268 by omega, show ¬ 645 + 1 + r ≤ 368 by omega, show ¬ 645 + 1 + r ≤ 375 by omega, show ¬ 645 + 1 + r = 376 by omega, show ¬ 645 + 1 + r ≤ 378 by omega, show ¬ 645 + 1 + r ≤ 380 by omega, show ¬ 645 + 1 + r ≤ 386 by omega, show ¬ 645 + 1 + r = 387 by omega, show ¬ 645 + 1 + r = 388 by omega, show ¬ 645 + 1 + r ≤ 644 by omega, show ¬ 645 + 1 + r = 645 by omega, show 645 + 1 + r ≤ 901 by omega, if_true, if_false, show 645 + 1 + r - 646 = r by omega]
theorem rlay_r41 {r : Nat} (h : r < 256) : rlay (902 + 1 + r) = some (.int, 256, 41, r) := by
  unfold rlay
  simp only [show ¬ 1160 ≤ 902 + 1 + r by omega, show ¬ 902 + 1 + r = 0 by omega, show ¬ 902 + 1 + r ≤ 5 by omega, show ¬ 902 + 1 + r = 6 by omega, show ¬ 902 + 1 + r ≤ 262 by omega, show ¬ 902 + 1 + r ≤ 265 by omega, show ¬ 902 + 1 + r ≤ 267 by omega, show ¬ 902 + 1 + r = 268 by omega, show ¬ 902 + 1 + r ≤ 368 by omega, show ¬ 902 + 1 + r ≤ 375 by omega, show ¬ 902 + 1 + r = 376 by omega, show ¬ 902 + 1 + r ≤ 378 by omega, show ¬ 902 + 1 + r ≤ 380 by omega, show ¬ 902 + 1 + r ≤ 386 by omega, show ¬ 902 + 1 + r = 387 by omega, show ¬ 902 + 1 + r = 388 by omega, show ¬ 902 + 1 + r ≤ 644 by omega, show ¬ 902 + 1 + r = 645 by omega, show ¬ 902 + 1 + r ≤ 901 by omega, show ¬ 902 + 1 + r = 902 by omega, show 902 + 1 + r ≤ 1158 by omega, if_true, if_false, show 902 + 1 + r - 903 = r by omega]
theorem rl_1 : rlay 1 = some (.int, 256, 1, 0) := rfl
theorem rl_2 : rlay 2 = some (.int, 256, 2, 0) := rfl
theorem rl_3 : rlay 3 = some (.int, 256, 3, 0) := rfl
theorem rl_4 : rlay 4 = some (.int, 256, 4, 0) := rfl
theorem rl_5 : rlay 5 = some (.int, 256, 5, 0) := rfl
theorem rl_10 : rlay 263 = some (.int, 100, 10, 0) := rfl
theorem rl_11 : rlay 264 = some (.int, 100, 11, 0) := rfl
theorem rl_12 : rlay 265 = some (.int, 100, 12, 0) := rfl
theorem rl_13 : rlay 266 = some (.int, 101, 13, 0) := rfl
theorem rl_14 : rlay 267 = some (.int, 101, 14, 0) := rfl
theorem rl_17 : rlay 369 = some (.int, 4000, 17, 0) := rfl
theorem rl_18 : rlay 370 = some (.int, 4000, 18, 0) := rfl
theorem rl_19 : rlay 371 = some (.int, 4000, 19, 0) := rfl
theorem rl_20 : rlay 372 = some (.int, 4000, 20, 0) := rfl
theorem rl_21 : rlay 373 = some (.int, 4000, 21, 0) := rfl
theorem rl_22 : rlay 374 = some (.int, 4000, 22, 0) := rfl
theorem rl_23 : rlay 375 = some (.int, 4000, 23, 0) := rfl
theorem rl_24 : rlay 376 = some (.byte, 256000, 24, 0) := rfl
theorem rl_25 : rlay 377 = some (.int, 84000, 25, 0) := rfl
theorem rl_26 : rlay 378 = some (.int, 84000, 26, 0) := rfl
theorem rl_30 : rlay 379 = some (.boolean, 4001, 30, 0) := rfl
theorem rl_31 : rlay 380 = some (.boolean, 4001, 31, 0) := rfl
theorem rl_32 : rlay 381 = some (.int, 256, 32, 0) := rfl
theorem rl_33 : rlay 382 = some (.int, 256, 33, 0) := rfl
theorem rl_34 : rlay 383 = some (.int, 256, 34, 0) := rfl
theorem rl_35 : rlay 384 = some (.int, 256, 35, 0) := rfl
theorem rl_36 : rlay 385 = some (.int, 256, 36, 0) := rfl
theorem rl_37 : rlay 386 = some (.int, 256, 37, 0) := rfl
theorem rl_38 : rlay 387 = some (.boolean, 256, 38, 0) := rfl
theorem rl_46 : rlay 1159 = some (.int, 64, 46, 0) := rfl
/-- the first of m places from k on where p holds, or -1 -/
def fnd (p : Nat → Prop) [DecidablePred p] : Nat → Nat → Int
  | _, 0 => -1
  | k, m + 1 => if p k then k else fnd p (k + 1) m
/-- how many of m places from k on -/
def cnt (p : Nat → Prop) [DecidablePred p] : Nat → Nat → Nat
  | _, 0 => 0
  | k, m + 1 => (if p k then 1 else 0) + cnt p (k + 1) m
theorem cnt_le (p : Nat → Prop) [DecidablePred p] : ∀ k m : Nat, cnt p k m ≤ m
  | _, 0 => Nat.le_refl _
  | k, m + 1 => by
    have := cnt_le p (k + 1) m
    unfold cnt
    split <;> omega
def rNamed (ρ : RS) (dir called : Int) : Int := fnd (fun n => ρ.2 1 0 n ≠ 0 ∧ ρ.2 2 0 n = dir ∧ ρ.2 3 0 n = called) 1 255
def rEnt (ρ : RS) (n : Int) : Nat := cnt (fun k => ρ.2 1 0 k ≠ 0 ∧ ρ.2 2 0 k = n) 1 255
def pts (n each : Int) : Int := (n + each - 1) / each
section Rr1
variable {b L : Nat} {xs : Nat → Int32} {m0 : Nat} {h : AH} {ρ : RS}
theorem r_parts (d : Nat) {n each : Int} (n1 : 0 ≤ n) (n2 : n ≤ 1000000000) (e1 : 0 < each) (e2 : each ≤ 1000000000) {h : AH} : Wp b L xs d mi_124 0 (ent (mL mi_124) [vI n, vI each]) [] h (Rt h (vI (pts n each))) := by
  refine w_iload_n rfl rfl ?_
  refine w_iload_n rfl rfl ?_
  refine w_iadd rfl ?_
  refine w_iconst rfl ?_
  refine w_isub rfl ?_
  refine w_iload_n rfl rfl ?_
  refine w_idiv rfl (by first | omega | (simp only [Int.toNat_natCast, upF_2] at *; omega)) (by first | omega | (simp only [Int.toNat_natCast, upF_2] at *; omega)) (by first | omega | (simp only [Int.toNat_natCast, upF_2] at *; omega)) (by first | omega | (simp only [Int.toNat_natCast, upF_2] at *; omega)) ?_
  refine w_ireturn rfl rfl ?_
  exact ⟨rfl, rfl⟩
theorem r_all (d : Nat) (hd : 1 ≤ d) {n v : Int} (n1 : 0 ≤ n) (n2 : n ≤ 100000000) (e1 : 1 < v) (e2 : v ≤ 1000000) {h : AH} : Wp b L xs d mi_125 0 (ent (mL mi_125) [vI n, vI v]) [] h (Rt h (vI (n + pts n (v - 1)))) := by
  refine w_iload_n rfl rfl ?_
  refine w_iload_n rfl rfl ?_
  refine w_iload_n rfl rfl ?_
  refine w_iconst rfl ?_
  refine w_isub rfl ?_
  refine w_csV rfl (by decide) (by first | omega | (simp only [Int.toNat_natCast, upF_2] at *; omega)) rfl mt_124 (Nat.le_of_ble_eq_true rfl) (Nat.le_of_ble_eq_true rfl) (r_parts _ (by omega) (by omega) (by omega) (by omega)) ?_
  refine w_iadd rfl ?_
  refine w_ireturn rfl rfl ?_
  exact ⟨rfl, rfl⟩
theorem r_thrown (hb : b < m0) (hg : Rg ρ) (d : Nat)  : Wp b L xs d mi_113 0 (ent (mL mi_113) [.ref m0]) [] (RH m0 h ρ) (Rt (RH m0 h ρ) (vI (ρ.1 0))) := by
  refine w_aload_n rfl rfl ?_
  refine m_get rfl rfl ?_
  refine w_ireturn rfl rfl ?_
  exact ⟨rfl, rfl⟩
theorem r_fails (hb : b < m0) (hg : Rg ρ) (d : Nat) {z w : Int} (z1 : z = 0 ∨ z = 1) : Wp b L xs d mi_112 0 (ent (mL mi_112) [.ref m0, vI z, vI w]) [] (RH m0 h ρ) (Rt (RH m0 h (upF ρ 0 (if z = 1 then w else 0))) (vI z)) := by
  refine w_aload_n rfl rfl ?_
  refine w_iload_n rfl rfl ?_
  refine w_ifeq rfl (by first | omega | exact (hg.2 _ _ _).1 | exact (hg.1 _).1 | (simp only [Int.toNat_natCast, upF_2] at *; omega)) (by first | omega | exact (hg.2 _ _ _).2 | exact (hg.1 _).2 | (simp only [Int.toNat_natCast, upF_2] at *; omega)) (fun hz => ?_) (fun hz => ?_)
  · rw [if_neg (by omega)]
    refine w_iconst rfl ?_
    refine m_put rfl rfl rfl rfl ?_
    refine w_iload_n rfl rfl ?_
    refine w_zreturn rfl rfl (by first | omega | (simp only [Int.toNat_natCast, upF_2] at *; omega)) ?_
    exact ⟨rfl, rfl⟩
  · rw [if_pos (by omega)]
    refine w_iload_n rfl rfl ?_
    refine w_goto rfl ?_
    refine m_put rfl rfl rfl rfl ?_
    refine w_iload_n rfl rfl ?_
    refine w_zreturn rfl rfl (by first | omega | (simp only [Int.toNat_natCast, upF_2] at *; omega)) ?_
    exact ⟨rfl, rfl⟩
theorem r_is (hb : b < m0) (hg : Rg ρ) (d : Nat) {n w : Int} (n1 : -2147483648 ≤ n) (n2 : n ≤ 2147483647) (w1 : -2147483648 ≤ w) (w2 : w ≤ 2147483647) : Wp b L xs d mi_115 0 (ent (mL mi_115) [.ref m0, vI n, vI w]) [] (RH m0 h ρ) (Rt (RH m0 h ρ) (vI (if 0 ≤ n ∧ n < 256 ∧ ρ.2 1 0 n.toNat = w then 1 else 0))) := by
  refine w_iload_n rfl rfl ?_
  refine w_iflt rfl (by first | omega | exact (hg.2 _ _ _).1 | exact (hg.1 _).1 | (simp only [Int.toNat_natCast, upF_2] at *; omega)) (by first | omega | exact (hg.2 _ _ _).2 | exact (hg.1 _).2 | (simp only [Int.toNat_natCast, upF_2] at *; omega)) (fun c1 => ?_) (fun c1 => ?_)
  · refine w_iconst rfl ?_
    refine w_zreturn rfl rfl (by first | omega | (simp only [Int.toNat_natCast, upF_2] at *; omega)) ?_
    exact ⟨rfl, by rw [if_neg (fun z => absurd z.1 (by omega))]⟩
  · refine w_iload_n rfl rfl ?_
    refine w_sipush rfl rfl ?_
    refine w_icge rfl (by first | omega | exact (hg.2 _ _ _).1 | exact (hg.1 _).1 | (simp only [Int.toNat_natCast, upF_2] at *; omega)) (by first | omega | exact (hg.2 _ _ _).2 | exact (hg.1 _).2 | (simp only [Int.toNat_natCast, upF_2] at *; omega)) (by first | omega | exact (hg.2 _ _ _).1 | exact (hg.1 _).1 | (simp only [Int.toNat_natCast, upF_2] at *; omega)) (by first | omega | exact (hg.2 _ _ _).2 | exact (hg.1 _).2 | (simp only [Int.toNat_natCast, upF_2] at *; omega)) (fun c2 => ?_) (fun c2 => ?_)
    · refine w_iconst rfl ?_
      refine w_zreturn rfl rfl (by first | omega | (simp only [Int.toNat_natCast, upF_2] at *; omega)) ?_
      exact ⟨rfl, by rw [if_neg (fun z => absurd z.2.1 (by omega))]⟩
    · refine w_aload_n rfl rfl ?_
      refine m_get rfl rfl ?_
      refine w_iload_n rfl rfl ?_
      refine m_iaload rfl hb rl_1 (by first | omega | (simp only [Int.toNat_natCast, upF_2] at *; omega)) (by first | omega | (simp only [Int.toNat_natCast, upF_2] at *; omega)) ?_
      refine w_iload_n rfl rfl ?_
      refine w_icne rfl (by first | omega | exact (hg.2 _ _ _).1 | exact (hg.1 _).1 | (simp only [Int.toNat_natCast, upF_2] at *; omega)) (by first | omega | exact (hg.2 _ _ _).2 | exact (hg.1 _).2 | (simp only [Int.toNat_natCast, upF_2] at *; omega)) (by first | omega | exact (hg.2 _ _ _).1 | exact (hg.1 _).1 | (simp only [Int.toNat_natCast, upF_2] at *; omega)) (by first | omega | exact (hg.2 _ _ _).2 | exact (hg.1 _).2 | (simp only [Int.toNat_natCast, upF_2] at *; omega)) (fun c3 => ?_) (fun c3 => ?_)
      · refine w_iconst rfl ?_
        refine w_zreturn rfl rfl (by first | omega | (simp only [Int.toNat_natCast, upF_2] at *; omega)) ?_
        exact ⟨rfl, by rw [if_neg (fun z => absurd z.2.2 c3)]⟩
      · refine w_iconst rfl ?_
        refine w_goto rfl ?_
        refine w_zreturn rfl rfl (by first | omega | (simp only [Int.toNat_natCast, upF_2] at *; omega)) ?_
        exact ⟨rfl, by rw [if_pos ⟨by omega, by omega, Decidable.of_not_not c3⟩]⟩
theorem r_named_l (hb : b < m0) (hg : Rg ρ) (d : Nat) {dir called : Int} (dir1 : -2147483648 ≤ dir) (dir2 : dir ≤ 2147483647) (called1 : -2147483648 ≤ called) (called2 : called ≤ 2147483647) : ∀ m k : Nat, k + m = 256 → Wp b L xs d mi_116 2 [some (.ref m0), some (vI dir), some (vI called), some (vI k)] [] (RH m0 h ρ) (Rt (RH m0 h ρ) (vI (fnd (fun n => ρ.2 1 0 n ≠ 0 ∧ ρ.2 2 0 n = dir ∧ ρ.2 3 0 n = called) k m))) := by
  intro m
  induction m with
  | zero =>
    intro k hk
    refine w_iload_n rfl rfl ?_
    refine w_sipush rfl rfl ?_
    refine w_icge_t rfl (by first | omega | exact (hg.2 _ _ _).1 | exact (hg.1 _).1 | (simp only [Int.toNat_natCast, upF_2] at *; omega)) (by first | omega | exact (hg.2 _ _ _).2 | exact (hg.1 _).2 | (simp only [Int.toNat_natCast, upF_2] at *; omega)) (by first | omega | exact (hg.2 _ _ _).1 | exact (hg.1 _).1 | (simp only [Int.toNat_natCast, upF_2] at *; omega)) (by first | omega | exact (hg.2 _ _ _).2 | exact (hg.1 _).2 | (simp only [Int.toNat_natCast, upF_2] at *; omega)) (by first | omega | (simp only [Int.toNat_natCast, upF_2] at *; omega)) ?_
    refine w_iconst rfl ?_
    refine w_ireturn rfl rfl ?_
    exact ⟨rfl, rfl⟩
  | succ m ih =>
    intro k hk
    refine w_iload_n rfl rfl ?_
    refine w_sipush rfl rfl ?_
    refine w_icge_f rfl (by first | omega | exact (hg.2 _ _ _).1 | exact (hg.1 _).1 | (simp only [Int.toNat_natCast, upF_2] at *; omega)) (by first | omega | exact (hg.2 _ _ _).2 | exact (hg.1 _).2 | (simp only [Int.toNat_natCast, upF_2] at *; omega)) (by first | omega | exact (hg.2 _ _ _).1 | exact (hg.1 _).1 | (simp only [Int.toNat_natCast, upF_2] at *; omega)) (by first | omega | exact (hg.2 _ _ _).2 | exact (hg.1 _).2 | (simp only [Int.toNat_natCast, upF_2] at *; omega)) (by first | omega | (simp only [Int.toNat_natCast, upF_2] at *; omega)) ?_
    refine w_aload_n rfl rfl ?_
    refine m_get rfl rfl ?_
    refine w_iload_n rfl rfl ?_
    refine m_iaload rfl hb rl_1 (by first | omega | (simp only [Int.toNat_natCast, upF_2] at *; omega)) (by first | omega | (simp only [Int.toNat_natCast, upF_2] at *; omega)) ?_
    refine w_ifeq rfl (by first | omega | exact (hg.2 _ _ _).1 | exact (hg.1 _).1 | (simp only [Int.toNat_natCast, upF_2] at *; omega)) (by first | omega | exact (hg.2 _ _ _).2 | exact (hg.1 _).2 | (simp only [Int.toNat_natCast, upF_2] at *; omega)) (fun c1 => ?_) (fun c1 => ?_)
    · refine w_iinc rfl rfl (by decide) ?_
      refine w_goto rfl ?_
      rw [fnd, if_neg (by (try simp only [Int.toNat_natCast, upF_2] at *); omega)]
      exact ih (k + 1) (by omega)
    · refine w_aload_n rfl rfl ?_
      refine m_get rfl rfl ?_
      refine w_iload_n rfl rfl ?_
      refine m_iaload rfl hb rl_2 (by first | omega | (simp only [Int.toNat_natCast, upF_2] at *; omega)) (by first | omega | (simp only [Int.toNat_natCast, upF_2] at *; omega)) ?_
      refine w_iload_n rfl rfl ?_
      refine w_icne rfl (by first | omega | exact (hg.2 _ _ _).1 | exact (hg.1 _).1 | (simp only [Int.toNat_natCast, upF_2] at *; omega)) (by first | omega | exact (hg.2 _ _ _).2 | exact (hg.1 _).2 | (simp only [Int.toNat_natCast, upF_2] at *; omega)) (by first | omega | exact (hg.2 _ _ _).1 | exact (hg.1 _).1 | (simp only [Int.toNat_natCast, upF_2] at *; omega)) (by first | omega | exact (hg.2 _ _ _).2 | exact (hg.1 _).2 | (simp only [Int.toNat_natCast, upF_2] at *; omega)) (fun c2 => ?_) (fun c2 => ?_)
      · refine w_iinc rfl rfl (by decide) ?_
        refine w_goto rfl ?_
        rw [fnd, if_neg (by (try simp only [Int.toNat_natCast, upF_2] at *); omega)]
        exact ih (k + 1) (by omega)
      · refine w_aload_n rfl rfl ?_
        refine m_get rfl rfl ?_
        refine w_iload_n rfl rfl ?_
        refine m_iaload rfl hb rl_3 (by first | omega | (simp only [Int.toNat_natCast, upF_2] at *; omega)) (by first | omega | (simp only [Int.toNat_natCast, upF_2] at *; omega)) ?_
        refine w_iload_n rfl rfl ?_
        refine w_icne rfl (by first | omega | exact (hg.2 _ _ _).1 | exact (hg.1 _).1 | (simp only [Int.toNat_natCast, upF_2] at *; omega)) (by first | omega | exact (hg.2 _ _ _).2 | exact (hg.1 _).2 | (simp only [Int.toNat_natCast, upF_2] at *; omega)) (by first | omega | exact (hg.2 _ _ _).1 | exact (hg.1 _).1 | (simp only [Int.toNat_natCast, upF_2] at *; omega)) (by first | omega | exact (hg.2 _ _ _).2 | exact (hg.1 _).2 | (simp only [Int.toNat_natCast, upF_2] at *; omega)) (fun c3 => ?_) (fun c3 => ?_)
        · refine w_iinc rfl rfl (by decide) ?_
          refine w_goto rfl ?_
          rw [fnd, if_neg (by (try simp only [Int.toNat_natCast, upF_2] at *); omega)]
          exact ih (k + 1) (by omega)
        · refine w_iload_n rfl rfl ?_
          refine w_ireturn rfl rfl ?_
          exact ⟨rfl, by rw [fnd, if_pos (by (try simp only [Int.toNat_natCast, upF_2] at *); omega)]⟩
theorem r_named (hb : b < m0) (hg : Rg ρ) (d : Nat) {dir called : Int} (dir1 : -2147483648 ≤ dir) (dir2 : dir ≤ 2147483647) (called1 : -2147483648 ≤ called) (called2 : called ≤ 2147483647) : Wp b L xs d mi_116 0 (ent (mL mi_116) [.ref m0, vI dir, vI called]) [] (RH m0 h ρ) (Rt (RH m0 h ρ) (vI (rNamed ρ dir called))) := by
  refine w_iconst rfl ?_
  refine w_istore_n rfl (by decide) ?_
  exact r_named_l hb hg d dir1 dir2 called1 called2 255 1 rfl
theorem r_ent_l (hb : b < m0) (hg : Rg ρ) (d : Nat) {dir : Int} (dir1 : -2147483648 ≤ dir) (dir2 : dir ≤ 2147483647) : ∀ m k a : Nat, k + m = 256 → Wp b L xs d mi_121 4 [some (.ref m0), some (vI dir), some (vI a), some (vI k)] [] (RH m0 h ρ) (Rt (RH m0 h ρ) (vI ((a + cnt (fun n => ρ.2 1 0 n ≠ 0 ∧ ρ.2 2 0 n = dir) k m : Nat)))) := by
  intro m
  induction m with
  | zero =>
    intro k a hk
    refine w_iload_n rfl rfl ?_
    refine w_sipush rfl rfl ?_
    refine w_icge_t rfl (by first | omega | exact (hg.2 _ _ _).1 | exact (hg.1 _).1 | (simp only [Int.toNat_natCast, upF_2] at *; omega)) (by first | omega | exact (hg.2 _ _ _).2 | exact (hg.1 _).2 | (simp only [Int.toNat_natCast, upF_2] at *; omega)) (by first | omega | exact (hg.2 _ _ _).1 | exact (hg.1 _).1 | (simp only [Int.toNat_natCast, upF_2] at *; omega)) (by first | omega | exact (hg.2 _ _ _).2 | exact (hg.1 _).2 | (simp only [Int.toNat_natCast, upF_2] at *; omega)) (by first | omega | (simp only [Int.toNat_natCast, upF_2] at *; omega)) ?_
    refine w_iload_n rfl rfl ?_
    refine w_ireturn rfl rfl ?_
    exact ⟨rfl, rfl⟩
  | succ m ih =>
    intro k a hk
    refine w_iload_n rfl rfl ?_
    refine w_sipush rfl rfl ?_
    refine w_icge_f rfl (by first | omega | exact (hg.2 _ _ _).1 | exact (hg.1 _).1 | (simp only [Int.toNat_natCast, upF_2] at *; omega)) (by first | omega | exact (hg.2 _ _ _).2 | exact (hg.1 _).2 | (simp only [Int.toNat_natCast, upF_2] at *; omega)) (by first | omega | exact (hg.2 _ _ _).1 | exact (hg.1 _).1 | (simp only [Int.toNat_natCast, upF_2] at *; omega)) (by first | omega | exact (hg.2 _ _ _).2 | exact (hg.1 _).2 | (simp only [Int.toNat_natCast, upF_2] at *; omega)) (by first | omega | (simp only [Int.toNat_natCast, upF_2] at *; omega)) ?_
    refine w_aload_n rfl rfl ?_
    refine m_get rfl rfl ?_
    refine w_iload_n rfl rfl ?_
    refine m_iaload rfl hb rl_1 (by first | omega | (simp only [Int.toNat_natCast, upF_2] at *; omega)) (by first | omega | (simp only [Int.toNat_natCast, upF_2] at *; omega)) ?_
    refine w_ifeq rfl (by first | omega | exact (hg.2 _ _ _).1 | exact (hg.1 _).1 | (simp only [Int.toNat_natCast, upF_2] at *; omega)) (by first | omega | exact (hg.2 _ _ _).2 | exact (hg.1 _).2 | (simp only [Int.toNat_natCast, upF_2] at *; omega)) (fun c1 => ?_) (fun c1 => ?_)
    · refine w_iinc rfl rfl (by decide) ?_
      refine w_goto rfl ?_
      rw [cnt, if_neg (by (try simp only [Int.toNat_natCast, upF_2] at *); omega), Nat.zero_add]
      exact ih (k + 1) a (by omega)
    · refine w_aload_n rfl rfl ?_
      refine m_get rfl rfl ?_
      refine w_iload_n rfl rfl ?_
      refine m_iaload rfl hb rl_2 (by first | omega | (simp only [Int.toNat_natCast, upF_2] at *; omega)) (by first | omega | (simp only [Int.toNat_natCast, upF_2] at *; omega)) ?_
      refine w_iload_n rfl rfl ?_
      refine w_icne rfl (by first | omega | exact (hg.2 _ _ _).1 | exact (hg.1 _).1 | (simp only [Int.toNat_natCast, upF_2] at *; omega)) (by first | omega | exact (hg.2 _ _ _).2 | exact (hg.1 _).2 | (simp only [Int.toNat_natCast, upF_2] at *; omega)) (by first | omega | exact (hg.2 _ _ _).1 | exact (hg.1 _).1 | (simp only [Int.toNat_natCast, upF_2] at *; omega)) (by first | omega | exact (hg.2 _ _ _).2 | exact (hg.1 _).2 | (simp only [Int.toNat_natCast, upF_2] at *; omega)) (fun c2 => ?_) (fun c2 => ?_)
      · refine w_iinc rfl rfl (by decide) ?_
        refine w_goto rfl ?_
        rw [cnt, if_neg (by (try simp only [Int.toNat_natCast, upF_2] at *); omega), Nat.zero_add]
        exact ih (k + 1) a (by omega)
      · refine w_iinc rfl rfl (by decide) ?_
        refine w_iinc rfl rfl (by decide) ?_
        refine w_goto rfl ?_
        rw [cnt, if_pos (by (try simp only [Int.toNat_natCast, upF_2] at *); omega), ← Nat.add_assoc]
        exact ih (k + 1) (a + 1) (by omega)
theorem r_ent (hb : b < m0) (hg : Rg ρ) (d : Nat) {dir : Int} (dir1 : -2147483648 ≤ dir) (dir2 : dir ≤ 2147483647) : Wp b L xs d mi_121 0 (ent (mL mi_121) [.ref m0, vI dir]) [] (RH m0 h ρ) (Rt (RH m0 h ρ) (vI (rEnt ρ dir))) := by
  refine w_iconst rfl ?_
  refine w_istore_n rfl (by decide) ?_
  refine w_iconst rfl ?_
  refine w_istore_n rfl (by decide) ?_
  have := r_ent_l (b := b) (L := L) (xs := xs) (h := h) hb hg d dir1 dir2 255 1 0 rfl
  rw [Nat.zero_add] at this
  exact this
end Rr1
end
section
/-! bits of ints and longs -/
theorem s32 : ∀ n : Nat, n < 32 → ((Int32.ofInt (n : Int) &&& 31).toBitVec.smod 32).toNat = n := by decide +kernel
theorem s32u : ∀ n : Nat, n < 32 → (((Int32.ofInt (n : Int)).toUInt32 &&& Int32.toUInt32 31).toBitVec % 32).toNat = n := by decide +kernel
theorem s64 : ∀ n : Nat, n < 64 → (((Int32.ofInt (n : Int)).toInt64 &&& 63).toBitVec.smod 64).toNat = n := by decide +kernel
theorem s64u : ∀ n : Nat, n < 64 → (((Int32.ofInt (n : Int)).toInt64.toUInt64 &&& Int64.toUInt64 63).toBitVec % 64).toNat = n := by decide +kernel
theorem i_nat {x : Int} (h1 : 0 ≤ x) (h2 : x ≤ 2147483647) : (Int32.ofInt x).toBitVec.toNat = x.toNat := by
  show (BitVec.ofInt 32 x).toNat = _
  rw [BitVec.toNat_ofInt]
  omega
theorem i_shr {x : Int} (h1 : 0 ≤ x) (h2 : x ≤ 2147483647) {s : Nat} (hs : s < 32) : Int32.ofInt x >>> (Int32.ofInt (s : Int) &&& 31) = Int32.ofInt (x / 2 ^ s) := by
  have h3 : 0 ≤ x / 2 ^ s := Int.ediv_nonneg h1 (Int.pow_nonneg (by decide))
  have h4 : x / 2 ^ s ≤ x := Int.ediv_le_self _ h1
  rw [← Int32.toInt_inj, i_int (by omega) (by omega)]
  show ((Int32.ofInt x).toBitVec.sshiftRight' ((Int32.ofInt (s : Int) &&& 31).toBitVec.smod 32)).toInt = _
  rw [BitVec.toInt_sshiftRight', s32 s hs, show (Int32.ofInt x).toBitVec.toInt = x from i_int (by omega) h2, Int.shiftRight_eq_div_pow]
  rfl
theorem i_ushr {x : Int} (h1 : 0 ≤ x) (h2 : x ≤ 2147483647) {s : Nat} (hs : s < 32) : ((Int32.ofInt x).toUInt32 >>> ((Int32.ofInt (s : Int)).toUInt32 &&& Int32.toUInt32 31)).toInt32 = Int32.ofInt (x / 2 ^ s) := by
  have h3 : 0 ≤ x / 2 ^ s := Int.ediv_nonneg h1 (Int.pow_nonneg (by decide))
  have h4 : x / 2 ^ s ≤ x := Int.ediv_le_self _ h1
  apply Int32.toBitVec.inj
  apply BitVec.eq_of_toNat_eq
  rw [i_nat h3 (by omega)]
  show ((Int32.ofInt x).toBitVec >>> (((Int32.ofInt (s : Int)).toUInt32 &&& Int32.toUInt32 31).toBitVec % 32)).toNat = _
  rw [BitVec.ushiftRight_eq', BitVec.toNat_ushiftRight, s32u s hs, i_nat h1 h2, Nat.shiftRight_eq_div_pow]
  obtain ⟨n, rfl⟩ := Int.eq_ofNat_of_zero_le h1
  rfl
theorem i_shl {x : Int} (h1 : 0 ≤ x) {s : Nat} (hs : s < 32) (h2 : x * 2 ^ s ≤ 2147483647) : Int32.ofInt x <<< (Int32.ofInt (s : Int) &&& 31) = Int32.ofInt (x * 2 ^ s) := by
  have hp : (1 : Int) ≤ 2 ^ s := by
    have h9 : ((2 ^ s : Nat) : Int) = 2 ^ s := by push_cast; rfl
    have h8 : 1 ≤ 2 ^ s := Nat.one_le_two_pow
    rw [← h9]; omega
  have h3 : x ≤ x * 2 ^ s := by
    have := Int.mul_le_mul_of_nonneg_left hp h1
    omega
  apply Int32.toBitVec.inj
  apply BitVec.eq_of_toNat_eq
  rw [i_nat (by omega) h2]
  show ((Int32.ofInt x).toBitVec <<< ((Int32.ofInt (s : Int) &&& 31).toBitVec.smod 32)).toNat = _
  rw [BitVec.shiftLeft_eq', BitVec.toNat_shiftLeft, s32 s hs, i_nat h1 (by omega), Nat.shiftLeft_eq]
  obtain ⟨n, rfl⟩ := Int.eq_ofNat_of_zero_le h1
  have h4 : (n : Int) * 2 ^ s = ((n * 2 ^ s : Nat) : Int) := by push_cast; rfl
  rw [h4] at h2 ⊢
  rw [Int.toNat_natCast, Int.toNat_natCast]
  omega
theorem i_and (x : Int) (k : Nat) (hk : k ≤ 31) : Int32.ofInt x &&& Int32.ofInt ((2 ^ k - 1 : Nat) : Int) = Int32.ofInt (x % 2 ^ k) := by
  have hp : (2 : Nat) ^ k ≤ 2 ^ 31 := Nat.pow_le_pow_right (by decide) hk
  have hp1 : (1 : Nat) ≤ 2 ^ k := Nat.one_le_two_pow
  have hc : ((2 ^ k : Nat) : Int) = 2 ^ k := by push_cast; rfl
  have hq : 0 ≤ x % 2 ^ k := Int.emod_nonneg _ (by rw [← hc]; omega)
  have hq2 : x % 2 ^ k < 2 ^ k := Int.emod_lt_of_pos _ (by rw [← hc]; omega)
  rw [← hc] at hq hq2 ⊢
  apply Int32.toBitVec.inj
  apply BitVec.eq_of_toNat_eq
  rw [i_nat hq (by omega)]
  show ((Int32.ofInt x).toBitVec &&& (Int32.ofInt ((2 ^ k - 1 : Nat) : Int)).toBitVec).toNat = _
  rw [BitVec.toNat_and, i_nat (x := ((2 ^ k - 1 : Nat) : Int)) (by omega) (by omega), Int.toNat_natCast, Nat.and_two_pow_sub_one_eq_mod]
  show (BitVec.ofInt 32 x).toNat % 2 ^ k = _
  rw [BitVec.toNat_ofInt]
  have hd : ((2 ^ k : Nat) : Int) ∣ ((2 ^ 32 : Nat) : Int) := Int.natCast_dvd_natCast.mpr (Nat.pow_dvd_pow 2 (by omega))
  have h5 := Int.emod_emod_of_dvd x hd
  rw [← h5]
  have h6 : 0 ≤ x % ((2 ^ 32 : Nat) : Int) := Int.emod_nonneg _ (by decide)
  obtain ⟨n, hn⟩ := Int.eq_ofNat_of_zero_le h6
  rw [hn]
  rfl
theorem i_or (a c : Nat) (ha : a ≤ 2147483647) (hc : c ≤ 2147483647) : Int32.ofInt (a : Int) ||| Int32.ofInt (c : Int) = Int32.ofInt ((a ||| c : Nat) : Int) := by
  have h1 : a ||| c < 2 ^ 31 := Nat.or_lt_two_pow (by omega) (by omega)
  apply Int32.toBitVec.inj
  apply BitVec.eq_of_toNat_eq
  rw [i_nat (by omega) (by omega), Int.toNat_natCast]
  show ((Int32.ofInt (a : Int)).toBitVec ||| (Int32.ofInt (c : Int)).toBitVec).toNat = _
  rw [BitVec.toNat_or, i_nat (by omega) (by omega), i_nat (by omega) (by omega)]
  rfl
theorem l_of {x : Int} (h1 : -2147483648 ≤ x) (h2 : x ≤ 2147483647) : (Int32.ofInt x).toInt64 = Int64.ofInt x := by
  rw [← Int64.toInt_inj, Int32.toInt_toInt64, i_int h1 h2, Int64.toInt_ofInt_of_le (by omega) (by omega)]
theorem l_int {x : Int} (h1 : -9223372036854775808 ≤ x) (h2 : x ≤ 9223372036854775807) : (Int64.ofInt x).toInt = x := Int64.toInt_ofInt_of_le (by omega) (by omega)
/-- the k-th octet of a long, from its front -/
def lo8 (v : Int64) (k : Nat) : Int := v.toInt / 2 ^ (56 - 8 * k) % 256
theorem l_shr (v : Int64) {s : Nat} (hs : s < 64) : (v >>> ((Int32.ofInt (s : Int)).toInt64 &&& 63)).toInt = v.toInt / 2 ^ s := by
  show (v.toBitVec.sshiftRight' (((Int32.ofInt (s : Int)).toInt64 &&& 63).toBitVec.smod 64)).toInt = _
  rw [BitVec.toInt_sshiftRight', s64 s hs, Int.shiftRight_eq_div_pow]
  rfl
theorem l_byte (v : Int64) : v.toInt32.toInt8.toInt32 = Int32.ofInt (sb v.toInt) := by
  have h1 := sb_lo v.toInt
  have h2 := sb_hi v.toInt
  rw [← Int32.toInt_inj, i_int (by omega) (by omega), Int8.toInt_toInt32, Int32.toInt_toInt8, Int64.toInt_toInt32, Int.bmod_bmod_of_dvd (by decide), i_bmod8]
theorem l_i (v : Int64) : v.toInt32 = Int32.ofInt v.toInt := by rw [Int32.ofInt_int64ToInt]
section Wbs
variable {b L : Nat} {xs : Nat → Int32} {d : Nat} {M : MI} {pc nx : Nat} {ri : List Nat} {lv : List (Option Value)} {st : List Value} {h : AH} {Q : AH → RO → Prop}
theorem w_ishr {x : Int} {y : Int} (q : fet (mE M) pc = some (.ishr, nx, ri)) (h1 : 0 ≤ x) (h2 : x ≤ 2147483647) (h3 : 0 ≤ y) (h4 : y < 32) (k : Wp b L xs d M nx lv (vI (x / 2 ^ y.toNat) :: st) h Q) : Wp b L xs d M pc lv (vI y :: vI x :: st) h Q := W_st q (fun _ => rfl) (z := (nx, lv, vI (x / 2 ^ y.toNat) :: st, h)) (by
  show some (nx, lv, Value.int (Int32.ofInt x >>> (Int32.ofInt y &&& 31)) :: st, h) = _
  obtain ⟨n, rfl⟩ := Int.eq_ofNat_of_zero_le h3
  rw [i_shr h1 h2 (by omega)]
  rfl) k
theorem w_iushr {x : Int} {y : Int} (q : fet (mE M) pc = some (.iushr, nx, ri)) (h1 : 0 ≤ x) (h2 : x ≤ 2147483647) (h3 : 0 ≤ y) (h4 : y < 32) (k : Wp b L xs d M nx lv (vI (x / 2 ^ y.toNat) :: st) h Q) : Wp b L xs d M pc lv (vI y :: vI x :: st) h Q := W_st q (fun _ => rfl) (z := (nx, lv, vI (x / 2 ^ y.toNat) :: st, h)) (by
  show some (nx, lv, Value.int ((Int32.ofInt x).toUInt32 >>> ((Int32.ofInt y).toUInt32 &&& Int32.toUInt32 31)).toInt32 :: st, h) = _
  obtain ⟨n, rfl⟩ := Int.eq_ofNat_of_zero_le h3
  rw [i_ushr h1 h2 (by omega)]
  rfl) k
theorem w_ishl {x : Int} {y : Int} (q : fet (mE M) pc = some (.ishl, nx, ri)) (h1 : 0 ≤ x) (h3 : 0 ≤ y) (h4 : y < 32) (h2 : x * 2 ^ y.toNat ≤ 2147483647) (k : Wp b L xs d M nx lv (vI (x * 2 ^ y.toNat) :: st) h Q) : Wp b L xs d M pc lv (vI y :: vI x :: st) h Q := W_st q (fun _ => rfl) (z := (nx, lv, vI (x * 2 ^ y.toNat) :: st, h)) (by
  show some (nx, lv, Value.int (Int32.ofInt x <<< (Int32.ofInt y &&& 31)) :: st, h) = _
  obtain ⟨n, rfl⟩ := Int.eq_ofNat_of_zero_le h3
  rw [i_shl (s := n) h1 (by omega) h2]
  rfl) k
theorem w_and255 {x : Int} (q : fet (mE M) pc = some (.iand, nx, ri)) (k : Wp b L xs d M nx lv (vI (x % 256) :: st) h Q) : Wp b L xs d M pc lv (vI 255 :: vI x :: st) h Q := W_st q (fun _ => rfl) (z := (nx, lv, vI (x % 256) :: st, h)) (by
  show some (nx, lv, Value.int (Int32.ofInt x &&& Int32.ofInt 255) :: st, h) = _
  rw [show Int32.ofInt x &&& Int32.ofInt 255 = Int32.ofInt (x % 256) from i_and x 8 (by decide)]) k
theorem w_and15 {x : Int} (q : fet (mE M) pc = some (.iand, nx, ri)) (k : Wp b L xs d M nx lv (vI (x % 16) :: st) h Q) : Wp b L xs d M pc lv (vI 15 :: vI x :: st) h Q := W_st q (fun _ => rfl) (z := (nx, lv, vI (x % 16) :: st, h)) (by
  show some (nx, lv, Value.int (Int32.ofInt x &&& Int32.ofInt 15) :: st, h) = _
  rw [show Int32.ofInt x &&& Int32.ofInt 15 = Int32.ofInt (x % 16) from i_and x 4 (by decide)]) k
theorem w_and1 {x : Int} (q : fet (mE M) pc = some (.iand, nx, ri)) (k : Wp b L xs d M nx lv (vI (x % 2) :: st) h Q) : Wp b L xs d M pc lv (vI 1 :: vI x :: st) h Q := W_st q (fun _ => rfl) (z := (nx, lv, vI (x % 2) :: st, h)) (by
  show some (nx, lv, Value.int (Int32.ofInt x &&& Int32.ofInt 1) :: st, h) = _
  rw [show Int32.ofInt x &&& Int32.ofInt 1 = Int32.ofInt (x % 2) from i_and x 1 (by decide)]) k
theorem w_ior {x y : Int} (q : fet (mE M) pc = some (.ior, nx, ri)) (h1 : 0 ≤ x) (h2 : x ≤ 2147483647) (h3 : 0 ≤ y) (h4 : y ≤ 2147483647) (k : Wp b L xs d M nx lv (vI ((x.toNat ||| y.toNat : Nat) : Int) :: st) h Q) : Wp b L xs d M pc lv (vI y :: vI x :: st) h Q := W_st q (fun _ => rfl) (z := (nx, lv, vI ((x.toNat ||| y.toNat : Nat) : Int) :: st, h)) (by
  show some (nx, lv, Value.int (Int32.ofInt x ||| Int32.ofInt y) :: st, h) = _
  obtain ⟨n, rfl⟩ := Int.eq_ofNat_of_zero_le h1
  obtain ⟨m, rfl⟩ := Int.eq_ofNat_of_zero_le h3
  rw [i_or n m (by omega) (by omega)]
  rfl) k
theorem w_i2lJ {x : Int} (q : fet (mE M) pc = some (.i2l, nx, ri)) (h1 : -2147483648 ≤ x) (h2 : x ≤ 2147483647) (k : Wp b L xs d M nx lv (vJ x :: st) h Q) : Wp b L xs d M pc lv (vI x :: st) h Q := w_i2l q (by rw [l_of h1 h2]; exact k)
theorem w_lmulJ {x y : Int} (q : fet (mE M) pc = some (.lmul, nx, ri)) (k : Wp b L xs d M nx lv (vJ (x * y) :: st) h Q) : Wp b L xs d M pc lv (vJ y :: vJ x :: st) h Q := W_st q (fun _ => rfl) (z := (nx, lv, vJ (x * y) :: st, h)) (by show some (nx, lv, Value.long (Int64.ofInt x * Int64.ofInt y) :: st, h) = _; rw [← Int64.ofInt_mul]) k
theorem w_laddJ {x y : Int} (q : fet (mE M) pc = some (.ladd, nx, ri)) (k : Wp b L xs d M nx lv (vJ (x + y) :: st) h Q) : Wp b L xs d M pc lv (vJ y :: vJ x :: st) h Q := W_st q (fun _ => rfl) (z := (nx, lv, vJ (x + y) :: st, h)) (by show some (nx, lv, Value.long (Int64.ofInt x + Int64.ofInt y) :: st, h) = _; rw [← Int64.ofInt_add]) k
theorem w_lsubJ {x y : Int} (q : fet (mE M) pc = some (.lsub, nx, ri)) (k : Wp b L xs d M nx lv (vJ (x - y) :: st) h Q) : Wp b L xs d M pc lv (vJ y :: vJ x :: st) h Q := W_st q (fun _ => rfl) (z := (nx, lv, vJ (x - y) :: st, h)) (by show some (nx, lv, Value.long (Int64.ofInt x - Int64.ofInt y) :: st, h) = _; rw [← Int64.ofInt_sub]) k
theorem w_lcmp {x y : Int64} (q : fet (mE M) pc = some (.lcmp, nx, ri)) (k : Wp b L xs d M nx lv (vI (if y.toInt < x.toInt then 1 else if x.toInt = y.toInt then 0 else -1) :: st) h Q) : Wp b L xs d M pc lv (.long y :: .long x :: st) h Q := W_st q (fun _ => rfl) (z := (nx, lv, vI (if y.toInt < x.toInt then 1 else if x.toInt = y.toInt then 0 else -1) :: st, h)) (by
  show some (nx, lv, Value.int (lg_cmp x y) :: st, h) = _
  unfold lg_cmp
  by_cases c1 : y.toInt < x.toInt
  · rw [if_pos c1, if_pos (Int64.lt_iff_toInt_lt.mpr c1)]; rfl
  · rw [if_neg c1, if_neg (fun z => c1 (Int64.lt_iff_toInt_lt.mp z))]
    by_cases c2 : x.toInt = y.toInt
    · rw [if_pos c2, if_pos (Int64.toInt_inj.mp c2)]; rfl
    · rw [if_neg c2, if_neg (fun z => c2 (Int64.toInt_inj.mpr z))]; rfl) k
theorem w_lcmpJ {x y : Int} (q : fet (mE M) pc = some (.lcmp, nx, ri)) (h1 : -9223372036854775808 ≤ x) (h2 : x ≤ 9223372036854775807) (h3 : -9223372036854775808 ≤ y) (h4 : y ≤ 9223372036854775807) (k : Wp b L xs d M nx lv (vI (if y < x then 1 else if x = y then 0 else -1) :: st) h Q) : Wp b L xs d M pc lv (vJ y :: vJ x :: st) h Q := w_lcmp q (by rw [l_int h1 h2, l_int h3 h4]; exact k)
theorem w_lshr {v : Int64} {y : Int} (q : fet (mE M) pc = some (.lshr, nx, ri)) (k : Wp b L xs d M nx lv (.long (v >>> ((Int32.ofInt y).toInt64 &&& 63)) :: st) h Q) : Wp b L xs d M pc lv (vI y :: .long v :: st) h Q := W_st q (fun _ => rfl) rfl k
theorem w_l2iJ {v : Int64} (q : fet (mE M) pc = some (.l2i, nx, ri)) (k : Wp b L xs d M nx lv (vI v.toInt :: st) h Q) : Wp b L xs d M pc lv (.long v :: st) h Q := w_l2i q (by rw [l_i]; exact k)
end Wbs
end
section
/-! the reference's readers and its calls on the tree -/
theorem upF_upF (ρ : RS) (k : Nat) (x y : Int) : upF (upF ρ k x) k y = upF ρ k y := by
  unfold upF
  dsimp only
  congr 1
  funext i
  split <;> rfl
theorem Rg.upF {ρ : RS} (hg : Rg ρ) (k : Nat) {x : Int} (h1 : -2147483648 ≤ x) (h2 : x ≤ 2147483647) : Rg (upF ρ k x) := by
  refine ⟨fun i => ?_, hg.2⟩
  show -2147483648 ≤ (if i = k then x else ρ.1 i) ∧ (if i = k then x else ρ.1 i) ≤ 2147483647
  split
  · exact ⟨h1, h2⟩
  · exact hg.1 i
theorem Rg.upA {ρ : RS} (hg : Rg ρ) (j r i : Nat) {x : Int} (h1 : -2147483648 ≤ x) (h2 : x ≤ 2147483647) : Rg (upA ρ j r i x) := by
  refine ⟨hg.1, fun j' r' i' => ?_⟩
  show -2147483648 ≤ (if j' = j ∧ r' = r ∧ i' = i then x else ρ.2 j' r' i') ∧ (if j' = j ∧ r' = r ∧ i' = i then x else ρ.2 j' r' i') ≤ 2147483647
  split
  · exact ⟨h1, h2⟩
  · exact hg.2 j' r' i'
/-- a variable's first n places cleared -/
def rz (ρ : RS) (j n : Nat) : RS := (ρ.1, fun j' r i => if j' = j ∧ r = 0 ∧ i < n then 0 else ρ.2 j' r i)
theorem rz_zero (ρ : RS) (j : Nat) : rz ρ j 0 = ρ := by
  unfold rz
  apply Prod.ext
  · rfl
  · funext j' r i
    show (if _ then _ else _) = _
    rw [if_neg (fun z => absurd z.2.2 (Nat.not_lt_zero _))]
theorem rz_succ (ρ : RS) (j k : Nat) : upA (rz ρ j k) j 0 k 0 = rz ρ j (k + 1) := by
  unfold rz upA
  dsimp only
  congr 1
  funext j' r i
  by_cases h1 : j' = j ∧ r = 0 ∧ i = k
  · rw [if_pos h1, if_pos ⟨h1.1, h1.2.1, by omega⟩]
  · rw [if_neg h1]
    by_cases h2 : j' = j ∧ r = 0 ∧ i < k
    · rw [if_pos h2, if_pos ⟨h2.1, h2.2.1, by omega⟩]
    · rw [if_neg h2, if_neg (fun z => ?_)]
      by_cases h3 : i = k
      · exact h1 ⟨z.1, z.2.1, h3⟩
      · exact h2 ⟨z.1, z.2.1, by omega⟩
theorem rz_succ2 (ρ : RS) (j l k : Nat) (h : j ≠ l) : upA (upA (rz (rz ρ j k) l k) j 0 k 0) l 0 k 0 = rz (rz ρ j (k + 1)) l (k + 1) := by
  rw [← rz_succ (rz ρ j (k + 1)), ← rz_succ ρ j k]
  congr 1
  unfold rz upA
  dsimp only
  congr 1
  funext j' r i
  by_cases h1 : j' = j ∧ r = 0 ∧ i = k
  · rw [if_pos h1, if_pos h1, if_neg (fun z => h (h1.1.symm.trans z.1))]
  · rw [if_neg h1, if_neg h1]
/-- up p's parents -/
def upN (ρ : RS) : Nat → Int → Int
  | 0, p => p
  | t + 1, p => upN ρ t (ρ.2 2 0 p.toNat)
/-- eight octets into a row of the data -/
def wr8 (ρ : RS) (n at_ : Nat) (v : Int64) (k : Nat) : RS := (ρ.1, fun j r i => if j = 6 ∧ r = n ∧ at_ ≤ i ∧ i < at_ + k then lo8 v (i - at_) else ρ.2 j r i)
theorem wr8_zero (ρ : RS) (n at_ : Nat) (v : Int64) : wr8 ρ n at_ v 0 = ρ := by
  unfold wr8
  apply Prod.ext
  · rfl
  · funext j' r i
    show (if _ then _ else _) = _
    rw [if_neg (by omega)]
theorem wr8_succ (ρ : RS) (n at_ : Nat) (v : Int64) (k : Nat) : upA (wr8 ρ n at_ v k) 6 n (at_ + k) (lo8 v k) = wr8 ρ n at_ v (k + 1) := by
  unfold wr8 upA
  dsimp only
  congr 1
  funext j r i
  by_cases h1 : j = 6 ∧ r = n ∧ i = at_ + k
  · rw [if_pos h1, if_pos ⟨h1.1, h1.2.1, by omega, by omega⟩, h1.2.2, Nat.add_sub_cancel_left]
  · rw [if_neg h1]
    by_cases h2 : j = 6 ∧ r = n ∧ at_ ≤ i ∧ i < at_ + k
    · rw [if_pos h2, if_pos ⟨h2.1, h2.2.1, by omega, by omega⟩]
    · rw [if_neg h2, if_neg (fun z => ?_)]
      by_cases h3 : i = at_ + k
      · exact h1 ⟨z.1, z.2.1, h3⟩
      · exact h2 ⟨z.1, z.2.1, by omega, by omega⟩
section Rr2
variable {b L : Nat} {xs : Nat → Int32} {m0 : Nat} {h : AH} {ρ : RS}
theorem r_fails0 (hb : b < m0) (hg : Rg ρ) (d : Nat) {w : Int} : Wp b L xs d mi_112 0 (ent (mL mi_112) [.ref m0, vI 0, vI w]) [] (RH m0 h ρ) (Rt (RH m0 h (upF ρ 0 0)) (vI 0)) := by
  refine w_aload_n rfl rfl ?_
  refine w_iload_n rfl rfl ?_
  refine w_ifeq_t rfl (by first | omega | exact (hg.2 _ _ _).1 | exact (hg.1 _).1 | (simp only [Int.toNat_natCast, upF_2] at *; omega)) (by first | omega | exact (hg.2 _ _ _).2 | exact (hg.1 _).2 | (simp only [Int.toNat_natCast, upF_2] at *; omega)) (by first | omega | (simp only [Int.toNat_natCast, upF_2] at *; omega)) ?_
  refine w_iconst rfl ?_
  refine m_put rfl rfl rfl rfl ?_
  refine w_iload_n rfl rfl ?_
  refine w_zreturn rfl rfl (by first | omega | (simp only [Int.toNat_natCast, upF_2] at *; omega)) ?_
  exact ⟨rfl, rfl⟩
theorem r_fails1 (hb : b < m0) (hg : Rg ρ) (d : Nat) {w : Int} : Wp b L xs d mi_112 0 (ent (mL mi_112) [.ref m0, vI 1, vI w]) [] (RH m0 h ρ) (Rt (RH m0 h (upF ρ 0 w)) (vI 1)) := by
  refine w_aload_n rfl rfl ?_
  refine w_iload_n rfl rfl ?_
  refine w_ifeq_f rfl (by first | omega | exact (hg.2 _ _ _).1 | exact (hg.1 _).1 | (simp only [Int.toNat_natCast, upF_2] at *; omega)) (by first | omega | exact (hg.2 _ _ _).2 | exact (hg.1 _).2 | (simp only [Int.toNat_natCast, upF_2] at *; omega)) (by first | omega | (simp only [Int.toNat_natCast, upF_2] at *; omega)) ?_
  refine w_iload_n rfl rfl ?_
  refine w_goto rfl ?_
  refine m_put rfl rfl rfl rfl ?_
  refine w_iload_n rfl rfl ?_
  refine w_zreturn rfl rfl (by first | omega | (simp only [Int.toNat_natCast, upF_2] at *; omega)) ?_
  exact ⟨rfl, rfl⟩
theorem r_is1 (hb : b < m0) (hg : Rg ρ) (d : Nat) {n w : Int} (hw : 0 ≤ n ∧ n < 256 ∧ ρ.2 1 0 n.toNat = w) (w1 : -2147483648 ≤ w) (w2 : w ≤ 2147483647) : Wp b L xs d mi_115 0 (ent (mL mi_115) [.ref m0, vI n, vI w]) [] (RH m0 h ρ) (Rt (RH m0 h ρ) (vI 1)) := by
  have := r_is (b := b) (L := L) (xs := xs) (h := h) hb hg d (n := n) (w := w) (by omega) (by omega) w1 w2
  rw [if_pos hw] at this
  exact this
theorem r_is0 (hb : b < m0) (hg : Rg ρ) (d : Nat) {n w : Int} (hw : ¬ (0 ≤ n ∧ n < 256 ∧ ρ.2 1 0 n.toNat = w)) (n1 : -2147483648 ≤ n) (n2 : n ≤ 2147483647) (w1 : -2147483648 ≤ w) (w2 : w ≤ 2147483647) : Wp b L xs d mi_115 0 (ent (mL mi_115) [.ref m0, vI n, vI w]) [] (RH m0 h ρ) (Rt (RH m0 h ρ) (vI 0)) := by
  have := r_is (b := b) (L := L) (xs := xs) (h := h) hb hg d (n := n) (w := w) n1 n2 w1 w2
  rw [if_neg hw] at this
  exact this
theorem r_chg (hb : b < m0) (hg : Rg ρ) (d : Nat) {n c : Int} (n1 : 0 ≤ n) (n2 : n < 256) (c1 : -1 ≤ c) (c2 : c < 100) : Wp b L xs d mi_123 0 (ent (mL mi_123) [.ref m0, vI n, vI c]) [] (RH m0 h ρ) (Rt (RH m0 h (ρ)) (vI (if ρ.2 1 0 n.toNat ≠ 0 ∧ (c < 0 ∨ ρ.2 11 0 c.toNat < ρ.2 5 0 n.toNat) then 1 else 0))) := by
  refine w_aload_n rfl rfl ?_
  refine m_get rfl rfl ?_
  refine w_iload_n rfl rfl ?_
  refine m_iaload rfl hb rl_1 (by first | omega | (simp only [Int.toNat_natCast, upF_2] at *; omega)) (by first | omega | (simp only [Int.toNat_natCast, upF_2] at *; omega)) ?_
  refine w_ifeq rfl (by first | omega | exact (hg.2 _ _ _).1 | exact (hg.1 _).1 | (simp only [Int.toNat_natCast, upF_2] at *; omega)) (by first | omega | exact (hg.2 _ _ _).2 | exact (hg.1 _).2 | (simp only [Int.toNat_natCast, upF_2] at *; omega)) (fun c3 => ?_) (fun c3 => ?_)
  · refine w_iconst rfl ?_
    refine w_zreturn rfl rfl (by first | omega | (simp only [Int.toNat_natCast, upF_2] at *; omega)) ?_
    exact ⟨rfl, by rw [if_neg (by omega)]⟩
  · refine w_iload_n rfl rfl ?_
    refine w_iflt rfl (by first | omega | exact (hg.2 _ _ _).1 | exact (hg.1 _).1 | (simp only [Int.toNat_natCast, upF_2] at *; omega)) (by first | omega | exact (hg.2 _ _ _).2 | exact (hg.1 _).2 | (simp only [Int.toNat_natCast, upF_2] at *; omega)) (fun c4 => ?_) (fun c4 => ?_)
    · refine w_iconst rfl ?_
      refine w_goto rfl ?_
      refine w_zreturn rfl rfl (by first | omega | (simp only [Int.toNat_natCast, upF_2] at *; omega)) ?_
      exact ⟨rfl, by rw [if_pos (by omega)]⟩
    · refine w_aload_n rfl rfl ?_
      refine m_get rfl rfl ?_
      refine w_iload_n rfl rfl ?_
      refine m_iaload rfl hb rl_5 (by first | omega | (simp only [Int.toNat_natCast, upF_2] at *; omega)) (by first | omega | (simp only [Int.toNat_natCast, upF_2] at *; omega)) ?_
      refine w_aload_n rfl rfl ?_
      refine m_get rfl rfl ?_
      refine w_iload_n rfl rfl ?_
      refine m_iaload rfl hb rl_11 (by first | omega | (simp only [Int.toNat_natCast, upF_2] at *; omega)) (by first | omega | (simp only [Int.toNat_natCast, upF_2] at *; omega)) ?_
      refine w_icle rfl (by first | omega | exact (hg.2 _ _ _).1 | exact (hg.1 _).1 | (simp only [Int.toNat_natCast, upF_2] at *; omega)) (by first | omega | exact (hg.2 _ _ _).2 | exact (hg.1 _).2 | (simp only [Int.toNat_natCast, upF_2] at *; omega)) (by first | omega | exact (hg.2 _ _ _).1 | exact (hg.1 _).1 | (simp only [Int.toNat_natCast, upF_2] at *; omega)) (by first | omega | exact (hg.2 _ _ _).2 | exact (hg.1 _).2 | (simp only [Int.toNat_natCast, upF_2] at *; omega)) (fun c5 => ?_) (fun c5 => ?_)
      · refine w_iconst rfl ?_
        refine w_zreturn rfl rfl (by first | omega | (simp only [Int.toNat_natCast, upF_2] at *; omega)) ?_
        exact ⟨rfl, by rw [if_neg (by omega)]⟩
      · refine w_iconst rfl ?_
        refine w_goto rfl ?_
        refine w_zreturn rfl rfl (by first | omega | (simp only [Int.toNat_natCast, upF_2] at *; omega)) ?_
        exact ⟨rfl, by rw [if_pos (by omega)]⟩
theorem r_many (hb : b < m0) (hg : Rg ρ) (d : Nat) {n : Int} (n1 : 0 ≤ n) (n2 : n < 100) : Wp b L xs d mi_133 0 (ent (mL mi_133) [.ref m0, vI n]) [] (RH m0 h ρ) (Rt (RH m0 h (ρ)) (vI (ρ.2 14 0 (n + 1).toNat - ρ.2 14 0 n.toNat))) := by
  refine w_aload_n rfl rfl ?_
  refine m_get rfl rfl ?_
  refine w_iload_n rfl rfl ?_
  refine w_iconst rfl ?_
  refine w_iadd rfl ?_
  refine m_iaload rfl hb rl_14 (by first | omega | (simp only [Int.toNat_natCast, upF_2] at *; omega)) (by first | omega | (simp only [Int.toNat_natCast, upF_2] at *; omega)) ?_
  refine w_aload_n rfl rfl ?_
  refine m_get rfl rfl ?_
  refine w_iload_n rfl rfl ?_
  refine m_iaload rfl hb rl_14 (by first | omega | (simp only [Int.toNat_natCast, upF_2] at *; omega)) (by first | omega | (simp only [Int.toNat_natCast, upF_2] at *; omega)) ?_
  refine w_isub rfl ?_
  refine w_ireturn rfl rfl ?_
  exact ⟨rfl, rfl⟩
theorem r_idx (hb : b < m0) (hg : Rg ρ) (d : Nat) (hd : 1 ≤ d) {n : Int} (n1 : 0 ≤ n) (n2 : n < 100) (n3 : 0 ≤ ρ.2 14 0 (n + 1).toNat - ρ.2 14 0 n.toNat) (n4 : ρ.2 14 0 (n + 1).toNat - ρ.2 14 0 n.toNat ≤ 100000) : Wp b L xs d mi_134 0 (ent (mL mi_134) [.ref m0, vI n]) [] (RH m0 h ρ) (Rt (RH m0 h (ρ)) (vI (pts (ρ.2 14 0 (n + 1).toNat - ρ.2 14 0 n.toNat) 31))) := by
  refine w_aload_n rfl rfl ?_
  refine w_iload_n rfl rfl ?_
  refine w_cvV rfl (by decide) (by first | omega | (simp only [Int.toNat_natCast, upF_2] at *; omega)) rfl RH_obj mt_133 (Nat.le_of_ble_eq_true rfl) (Nat.le_of_ble_eq_true rfl) (r_many hb (by assumption) _ (by omega) (by omega)) ?_
  refine w_bipush rfl rfl ?_
  refine w_csV rfl (by decide) (by first | omega | (simp only [Int.toNat_natCast, upF_2] at *; omega)) rfl mt_124 (Nat.le_of_ble_eq_true rfl) (Nat.le_of_ble_eq_true rfl) (r_parts _ (by omega) (by omega) (by omega) (by omega)) ?_
  refine w_ireturn rfl rfl ?_
  exact ⟨rfl, rfl⟩
theorem r_head (hb : b < m0) (hg : Rg ρ) (d : Nat) (hd : 2 ≤ d) {n : Int} (n1 : 0 ≤ n) (n2 : n < 100) (n3 : 0 ≤ ρ.2 14 0 (n + 1).toNat - ρ.2 14 0 n.toNat) (n4 : ρ.2 14 0 (n + 1).toNat - ρ.2 14 0 n.toNat ≤ 100000) : Wp b L xs d mi_138 0 (ent (mL mi_138) [.ref m0, vI n]) [] (RH m0 h ρ) (Rt (RH m0 h (ρ)) (vI (2 + pts (ρ.2 14 0 (n + 1).toNat - ρ.2 14 0 n.toNat) 31))) := by
  refine w_iconst rfl ?_
  refine w_aload_n rfl rfl ?_
  refine w_iload_n rfl rfl ?_
  refine w_cvV rfl (by decide) (by first | omega | (simp only [Int.toNat_natCast, upF_2] at *; omega)) rfl RH_obj mt_134 (Nat.le_of_ble_eq_true rfl) (Nat.le_of_ble_eq_true rfl) (r_idx hb (by assumption) _ (by omega) (by omega) (by omega) (by omega) (by omega)) ?_
  refine w_iadd rfl ?_
  refine w_ireturn rfl rfl ?_
  exact ⟨rfl, rfl⟩
theorem r_cont (hb : b < m0) (hg : Rg ρ) (d : Nat) (hd : 1 ≤ d) {n : Int} (n1 : 0 ≤ n) (n2 : n < 4000) (n3 : 0 ≤ ρ.2 21 0 n.toNat) (n4 : ρ.2 21 0 n.toNat ≤ 100000) : Wp b L xs d mi_135 0 (ent (mL mi_135) [.ref m0, vI n]) [] (RH m0 h ρ) (Rt (RH m0 h (ρ)) (vI (pts (ρ.2 21 0 n.toNat) (if ρ.2 18 0 n.toNat = 1 then 64 else 21)))) := by
  refine w_aload_n rfl rfl ?_
  refine m_get rfl rfl ?_
  refine w_iload_n rfl rfl ?_
  refine m_iaload rfl hb rl_21 (by first | omega | (simp only [Int.toNat_natCast, upF_2] at *; omega)) (by first | omega | (simp only [Int.toNat_natCast, upF_2] at *; omega)) ?_
  refine w_aload_n rfl rfl ?_
  refine m_get rfl rfl ?_
  refine w_iload_n rfl rfl ?_
  refine m_iaload rfl hb rl_18 (by first | omega | (simp only [Int.toNat_natCast, upF_2] at *; omega)) (by first | omega | (simp only [Int.toNat_natCast, upF_2] at *; omega)) ?_
  refine w_iconst rfl ?_
  refine w_icne rfl (by first | omega | exact (hg.2 _ _ _).1 | exact (hg.1 _).1 | (simp only [Int.toNat_natCast, upF_2] at *; omega)) (by first | omega | exact (hg.2 _ _ _).2 | exact (hg.1 _).2 | (simp only [Int.toNat_natCast, upF_2] at *; omega)) (by first | omega | exact (hg.2 _ _ _).1 | exact (hg.1 _).1 | (simp only [Int.toNat_natCast, upF_2] at *; omega)) (by first | omega | exact (hg.2 _ _ _).2 | exact (hg.1 _).2 | (simp only [Int.toNat_natCast, upF_2] at *; omega)) (fun c1 => ?_) (fun c1 => ?_)
  · rw [if_neg c1]
    refine w_bipush rfl rfl ?_
    refine w_csV rfl (by decide) (by first | omega | (simp only [Int.toNat_natCast, upF_2] at *; omega)) rfl mt_124 (Nat.le_of_ble_eq_true rfl) (Nat.le_of_ble_eq_true rfl) (r_parts _ (by omega) (by omega) (by omega) (by omega)) ?_
    refine w_ireturn rfl rfl ?_
    exact ⟨rfl, rfl⟩
  · rw [if_pos (by omega)]
    refine w_bipush rfl rfl ?_
    refine w_goto rfl ?_
    refine w_csV rfl (by decide) (by first | omega | (simp only [Int.toNat_natCast, upF_2] at *; omega)) rfl mt_124 (Nat.le_of_ble_eq_true rfl) (Nat.le_of_ble_eq_true rfl) (r_parts _ (by omega) (by omega) (by omega) (by omega)) ?_
    refine w_ireturn rfl rfl ?_
    exact ⟨rfl, rfl⟩
theorem r_place (hb : b < m0) (hg : Rg ρ) (d : Nat) {v c : Int} : Wp b L xs d mi_129 0 (ent (mL mi_129) [.ref m0, vI v, vI c]) [] (RH m0 h ρ) (Rt (RH m0 h (ρ)) (vI (v * (ρ.1 8 - 1) + c - 1))) := by
  refine w_iload_n rfl rfl ?_
  refine w_aload_n rfl rfl ?_
  refine m_get rfl rfl ?_
  refine w_iconst rfl ?_
  refine w_isub rfl ?_
  refine w_imul rfl ?_
  refine w_iload_n rfl rfl ?_
  refine w_iadd rfl ?_
  refine w_iconst rfl ?_
  refine w_isub rfl ?_
  refine w_ireturn rfl rfl ?_
  exact ⟨rfl, rfl⟩
def rWr (ρ : RS) (v c : Int) : Prop := 0 ≤ v ∧ 0 ≤ c ∧ c < ρ.1 8 ∧ v ≤ 4000 ∧ (if c = 0 then v * (ρ.1 8 - 1) < ρ.1 9 else v * (ρ.1 8 - 1) + c - 1 < ρ.1 9)
theorem r_wr0 (hb : b < m0) (hg : Rg ρ) (d : Nat) {v c : Int} (v1 : -2147483648 ≤ v) (v2 : v ≤ 2147483647) (c1 : -2147483648 ≤ c) (c2 : c ≤ 2147483647) (k1 : 4 ≤ ρ.1 8) (k2 : ρ.1 8 ≤ 1000) (w1 : 0 ≤ ρ.1 9) (w2 : ρ.1 9 ≤ 4000) (hw : ¬ rWr ρ v c) : Wp b L xs d mi_128 0 (ent (mL mi_128) [.ref m0, vI v, vI c]) [] (RH m0 h ρ) (Rt (RH m0 h (ρ)) (vI 0)) := by
  by_cases q1 : 0 ≤ v ∧ 0 ≤ c ∧ c < ρ.1 8 ∧ v ≤ 4000
  · have hz1 : 0 ≤ v * (ρ.1 8 - 1) := Int.mul_nonneg (by omega) (by omega)
    have hz2 : v * (ρ.1 8 - 1) ≤ 4000 * 999 := Int.mul_le_mul (by omega) (by omega) (by omega) (by omega)
    have q2 : ¬ (if c = 0 then v * (ρ.1 8 - 1) < ρ.1 9 else v * (ρ.1 8 - 1) + c - 1 < ρ.1 9) := fun z => hw ⟨q1.1, q1.2.1, q1.2.2.1, q1.2.2.2, z⟩
    by_cases q3 : c = 0
    · rw [if_pos q3] at q2
      refine w_iload_n rfl rfl ?_
      refine w_iflt_f rfl (by first | omega | exact (hg.2 _ _ _).1 | exact (hg.1 _).1 | (simp only [Int.toNat_natCast, upF_2] at *; omega)) (by first | omega | exact (hg.2 _ _ _).2 | exact (hg.1 _).2 | (simp only [Int.toNat_natCast, upF_2] at *; omega)) (by first | omega | (simp only [Int.toNat_natCast, upF_2] at *; omega)) ?_
      refine w_iload_n rfl rfl ?_
      refine w_iflt_f rfl (by first | omega | exact (hg.2 _ _ _).1 | exact (hg.1 _).1 | (simp only [Int.toNat_natCast, upF_2] at *; omega)) (by first | omega | exact (hg.2 _ _ _).2 | exact (hg.1 _).2 | (simp only [Int.toNat_natCast, upF_2] at *; omega)) (by first | omega | (simp only [Int.toNat_natCast, upF_2] at *; omega)) ?_
      refine w_iload_n rfl rfl ?_
      refine w_aload_n rfl rfl ?_
      refine m_get rfl rfl ?_
      refine w_icge_f rfl (by first | omega | exact (hg.2 _ _ _).1 | exact (hg.1 _).1 | (simp only [Int.toNat_natCast, upF_2] at *; omega)) (by first | omega | exact (hg.2 _ _ _).2 | exact (hg.1 _).2 | (simp only [Int.toNat_natCast, upF_2] at *; omega)) (by first | omega | exact (hg.2 _ _ _).1 | exact (hg.1 _).1 | (simp only [Int.toNat_natCast, upF_2] at *; omega)) (by first | omega | exact (hg.2 _ _ _).2 | exact (hg.1 _).2 | (simp only [Int.toNat_natCast, upF_2] at *; omega)) (by first | omega | (simp only [Int.toNat_natCast, upF_2] at *; omega)) ?_
      refine w_iload_n rfl rfl ?_
      refine w_sipush rfl rfl ?_
      refine w_icle_t rfl (by first | omega | exact (hg.2 _ _ _).1 | exact (hg.1 _).1 | (simp only [Int.toNat_natCast, upF_2] at *; omega)) (by first | omega | exact (hg.2 _ _ _).2 | exact (hg.1 _).2 | (simp only [Int.toNat_natCast, upF_2] at *; omega)) (by first | omega | exact (hg.2 _ _ _).1 | exact (hg.1 _).1 | (simp only [Int.toNat_natCast, upF_2] at *; omega)) (by first | omega | exact (hg.2 _ _ _).2 | exact (hg.1 _).2 | (simp only [Int.toNat_natCast, upF_2] at *; omega)) (by first | omega | (simp only [Int.toNat_natCast, upF_2] at *; omega)) ?_
      refine w_iload_n rfl rfl ?_
      refine w_ifne_f rfl (by first | omega | exact (hg.2 _ _ _).1 | exact (hg.1 _).1 | (simp only [Int.toNat_natCast, upF_2] at *; omega)) (by first | omega | exact (hg.2 _ _ _).2 | exact (hg.1 _).2 | (simp only [Int.toNat_natCast, upF_2] at *; omega)) (by first | omega | (simp only [Int.toNat_natCast, upF_2] at *; omega)) ?_
      refine w_iload_n rfl rfl ?_
      refine w_i2lJ rfl (by first | omega | exact (hg.2 _ _ _).1 | exact (hg.1 _).1 | (simp only [Int.toNat_natCast, upF_2] at *; omega)) (by first | omega | exact (hg.2 _ _ _).2 | exact (hg.1 _).2 | (simp only [Int.toNat_natCast, upF_2] at *; omega)) ?_
      refine w_aload_n rfl rfl ?_
      refine m_get rfl rfl ?_
      refine w_iconst rfl ?_
      refine w_isub rfl ?_
      refine w_i2lJ rfl (by first | omega | exact (hg.2 _ _ _).1 | exact (hg.1 _).1 | (simp only [Int.toNat_natCast, upF_2] at *; omega)) (by first | omega | exact (hg.2 _ _ _).2 | exact (hg.1 _).2 | (simp only [Int.toNat_natCast, upF_2] at *; omega)) ?_
      refine w_lmulJ rfl ?_
      refine w_aload_n rfl rfl ?_
      refine m_get rfl rfl ?_
      refine w_i2lJ rfl (by first | omega | exact (hg.2 _ _ _).1 | exact (hg.1 _).1 | (simp only [Int.toNat_natCast, upF_2] at *; omega)) (by first | omega | exact (hg.2 _ _ _).2 | exact (hg.1 _).2 | (simp only [Int.toNat_natCast, upF_2] at *; omega)) ?_
      refine w_lcmpJ rfl (by first | omega | (refine Int.le_trans ?_ hz1; omega)) (by first | omega | (refine Int.le_trans hz2 ?_; omega)) (by first | omega | (refine Int.le_trans ?_ hz1; omega)) (by first | omega | (refine Int.le_trans hz2 ?_; omega)) ?_
      refine w_ifge_t rfl (by first | omega | exact (hg.2 _ _ _).1 | exact (hg.1 _).1 | (simp only [Int.toNat_natCast, upF_2] at *; omega)) (by first | omega | exact (hg.2 _ _ _).2 | exact (hg.1 _).2 | (simp only [Int.toNat_natCast, upF_2] at *; omega)) (by split <;> omega) ?_
      refine w_iconst rfl ?_
      refine w_goto rfl ?_
      refine w_zreturn rfl rfl (by first | omega | (simp only [Int.toNat_natCast, upF_2] at *; omega)) ?_
      exact ⟨rfl, rfl⟩
    · rw [if_neg q3] at q2
      refine w_iload_n rfl rfl ?_
      refine w_iflt_f rfl (by first | omega | exact (hg.2 _ _ _).1 | exact (hg.1 _).1 | (simp only [Int.toNat_natCast, upF_2] at *; omega)) (by first | omega | exact (hg.2 _ _ _).2 | exact (hg.1 _).2 | (simp only [Int.toNat_natCast, upF_2] at *; omega)) (by first | omega | (simp only [Int.toNat_natCast, upF_2] at *; omega)) ?_
      refine w_iload_n rfl rfl ?_
      refine w_iflt_f rfl (by first | omega | exact (hg.2 _ _ _).1 | exact (hg.1 _).1 | (simp only [Int.toNat_natCast, upF_2] at *; omega)) (by first | omega | exact (hg.2 _ _ _).2 | exact (hg.1 _).2 | (simp only [Int.toNat_natCast, upF_2] at *; omega)) (by first | omega | (simp only [Int.toNat_natCast, upF_2] at *; omega)) ?_
      refine w_iload_n rfl rfl ?_
      refine w_aload_n rfl rfl ?_
      refine m_get rfl rfl ?_
      refine w_icge_f rfl (by first | omega | exact (hg.2 _ _ _).1 | exact (hg.1 _).1 | (simp only [Int.toNat_natCast, upF_2] at *; omega)) (by first | omega | exact (hg.2 _ _ _).2 | exact (hg.1 _).2 | (simp only [Int.toNat_natCast, upF_2] at *; omega)) (by first | omega | exact (hg.2 _ _ _).1 | exact (hg.1 _).1 | (simp only [Int.toNat_natCast, upF_2] at *; omega)) (by first | omega | exact (hg.2 _ _ _).2 | exact (hg.1 _).2 | (simp only [Int.toNat_natCast, upF_2] at *; omega)) (by first | omega | (simp only [Int.toNat_natCast, upF_2] at *; omega)) ?_
      refine w_iload_n rfl rfl ?_
      refine w_sipush rfl rfl ?_
      refine w_icle_t rfl (by first | omega | exact (hg.2 _ _ _).1 | exact (hg.1 _).1 | (simp only [Int.toNat_natCast, upF_2] at *; omega)) (by first | omega | exact (hg.2 _ _ _).2 | exact (hg.1 _).2 | (simp only [Int.toNat_natCast, upF_2] at *; omega)) (by first | omega | exact (hg.2 _ _ _).1 | exact (hg.1 _).1 | (simp only [Int.toNat_natCast, upF_2] at *; omega)) (by first | omega | exact (hg.2 _ _ _).2 | exact (hg.1 _).2 | (simp only [Int.toNat_natCast, upF_2] at *; omega)) (by first | omega | (simp only [Int.toNat_natCast, upF_2] at *; omega)) ?_
      refine w_iload_n rfl rfl ?_
      refine w_ifne_t rfl (by first | omega | exact (hg.2 _ _ _).1 | exact (hg.1 _).1 | (simp only [Int.toNat_natCast, upF_2] at *; omega)) (by first | omega | exact (hg.2 _ _ _).2 | exact (hg.1 _).2 | (simp only [Int.toNat_natCast, upF_2] at *; omega)) (by first | omega | (simp only [Int.toNat_natCast, upF_2] at *; omega)) ?_
      refine w_iload_n rfl rfl ?_
      refine w_i2lJ rfl (by first | omega | exact (hg.2 _ _ _).1 | exact (hg.1 _).1 | (simp only [Int.toNat_natCast, upF_2] at *; omega)) (by first | omega | exact (hg.2 _ _ _).2 | exact (hg.1 _).2 | (simp only [Int.toNat_natCast, upF_2] at *; omega)) ?_
      refine w_aload_n rfl rfl ?_
      refine m_get rfl rfl ?_
      refine w_iconst rfl ?_
      refine w_isub rfl ?_
      refine w_i2lJ rfl (by first | omega | exact (hg.2 _ _ _).1 | exact (hg.1 _).1 | (simp only [Int.toNat_natCast, upF_2] at *; omega)) (by first | omega | exact (hg.2 _ _ _).2 | exact (hg.1 _).2 | (simp only [Int.toNat_natCast, upF_2] at *; omega)) ?_
      refine w_lmulJ rfl ?_
      refine w_iload_n rfl rfl ?_
      refine w_i2lJ rfl (by first | omega | exact (hg.2 _ _ _).1 | exact (hg.1 _).1 | (simp only [Int.toNat_natCast, upF_2] at *; omega)) (by first | omega | exact (hg.2 _ _ _).2 | exact (hg.1 _).2 | (simp only [Int.toNat_natCast, upF_2] at *; omega)) ?_
      refine w_laddJ rfl ?_
      refine w_lconst rfl ?_
      refine w_lsubJ (y := 1) rfl ?_
      refine w_aload_n rfl rfl ?_
      refine m_get rfl rfl ?_
      refine w_i2lJ rfl (by first | omega | exact (hg.2 _ _ _).1 | exact (hg.1 _).1 | (simp only [Int.toNat_natCast, upF_2] at *; omega)) (by first | omega | exact (hg.2 _ _ _).2 | exact (hg.1 _).2 | (simp only [Int.toNat_natCast, upF_2] at *; omega)) ?_
      refine w_lcmpJ rfl (by omega) (by omega) (by omega) (by omega) ?_
      refine w_ifge_t rfl (by first | omega | exact (hg.2 _ _ _).1 | exact (hg.1 _).1 | (simp only [Int.toNat_natCast, upF_2] at *; omega)) (by first | omega | exact (hg.2 _ _ _).2 | exact (hg.1 _).2 | (simp only [Int.toNat_natCast, upF_2] at *; omega)) (by split <;> omega) ?_
      refine w_iconst rfl ?_
      refine w_zreturn rfl rfl (by first | omega | (simp only [Int.toNat_natCast, upF_2] at *; omega)) ?_
      exact ⟨rfl, rfl⟩
  · by_cases q2 : v < 0
    · refine w_iload_n rfl rfl ?_
      refine w_iflt_t rfl (by first | omega | exact (hg.2 _ _ _).1 | exact (hg.1 _).1 | (simp only [Int.toNat_natCast, upF_2] at *; omega)) (by first | omega | exact (hg.2 _ _ _).2 | exact (hg.1 _).2 | (simp only [Int.toNat_natCast, upF_2] at *; omega)) (by first | omega | (simp only [Int.toNat_natCast, upF_2] at *; omega)) ?_
      refine w_iconst rfl ?_
      refine w_zreturn rfl rfl (by first | omega | (simp only [Int.toNat_natCast, upF_2] at *; omega)) ?_
      exact ⟨rfl, rfl⟩
    by_cases q3 : c < 0
    · refine w_iload_n rfl rfl ?_
      refine w_iflt_f rfl (by first | omega | exact (hg.2 _ _ _).1 | exact (hg.1 _).1 | (simp only [Int.toNat_natCast, upF_2] at *; omega)) (by first | omega | exact (hg.2 _ _ _).2 | exact (hg.1 _).2 | (simp only [Int.toNat_natCast, upF_2] at *; omega)) (by first | omega | (simp only [Int.toNat_natCast, upF_2] at *; omega)) ?_
      refine w_iload_n rfl rfl ?_
      refine w_iflt_t rfl (by first | omega | exact (hg.2 _ _ _).1 | exact (hg.1 _).1 | (simp only [Int.toNat_natCast, upF_2] at *; omega)) (by first | omega | exact (hg.2 _ _ _).2 | exact (hg.1 _).2 | (simp only [Int.toNat_natCast, upF_2] at *; omega)) (by first | omega | (simp only [Int.toNat_natCast, upF_2] at *; omega)) ?_
      refine w_iconst rfl ?_
      refine w_zreturn rfl rfl (by first | omega | (simp only [Int.toNat_natCast, upF_2] at *; omega)) ?_
      exact ⟨rfl, rfl⟩
    by_cases q4 : ρ.1 8 ≤ c
    · refine w_iload_n rfl rfl ?_
      refine w_iflt_f rfl (by first | omega | exact (hg.2 _ _ _).1 | exact (hg.1 _).1 | (simp only [Int.toNat_natCast, upF_2] at *; omega)) (by first | omega | exact (hg.2 _ _ _).2 | exact (hg.1 _).2 | (simp only [Int.toNat_natCast, upF_2] at *; omega)) (by first | omega | (simp only [Int.toNat_natCast, upF_2] at *; omega)) ?_
      refine w_iload_n rfl rfl ?_
      refine w_iflt_f rfl (by first | omega | exact (hg.2 _ _ _).1 | exact (hg.1 _).1 | (simp only [Int.toNat_natCast, upF_2] at *; omega)) (by first | omega | exact (hg.2 _ _ _).2 | exact (hg.1 _).2 | (simp only [Int.toNat_natCast, upF_2] at *; omega)) (by first | omega | (simp only [Int.toNat_natCast, upF_2] at *; omega)) ?_
      refine w_iload_n rfl rfl ?_
      refine w_aload_n rfl rfl ?_
      refine m_get rfl rfl ?_
      refine w_icge_t rfl (by first | omega | exact (hg.2 _ _ _).1 | exact (hg.1 _).1 | (simp only [Int.toNat_natCast, upF_2] at *; omega)) (by first | omega | exact (hg.2 _ _ _).2 | exact (hg.1 _).2 | (simp only [Int.toNat_natCast, upF_2] at *; omega)) (by first | omega | exact (hg.2 _ _ _).1 | exact (hg.1 _).1 | (simp only [Int.toNat_natCast, upF_2] at *; omega)) (by first | omega | exact (hg.2 _ _ _).2 | exact (hg.1 _).2 | (simp only [Int.toNat_natCast, upF_2] at *; omega)) (by first | omega | (simp only [Int.toNat_natCast, upF_2] at *; omega)) ?_
      refine w_iconst rfl ?_
      refine w_zreturn rfl rfl (by first | omega | (simp only [Int.toNat_natCast, upF_2] at *; omega)) ?_
      exact ⟨rfl, rfl⟩
    refine w_iload_n rfl rfl ?_
    refine w_iflt_f rfl (by first | omega | exact (hg.2 _ _ _).1 | exact (hg.1 _).1 | (simp only [Int.toNat_natCast, upF_2] at *; omega)) (by first | omega | exact (hg.2 _ _ _).2 | exact (hg.1 _).2 | (simp only [Int.toNat_natCast, upF_2] at *; omega)) (by first | omega | (simp only [Int.toNat_natCast, upF_2] at *; omega)) ?_
    refine w_iload_n rfl rfl ?_
    refine w_iflt_f rfl (by first | omega | exact (hg.2 _ _ _).1 | exact (hg.1 _).1 | (simp only [Int.toNat_natCast, upF_2] at *; omega)) (by first | omega | exact (hg.2 _ _ _).2 | exact (hg.1 _).2 | (simp only [Int.toNat_natCast, upF_2] at *; omega)) (by first | omega | (simp only [Int.toNat_natCast, upF_2] at *; omega)) ?_
    refine w_iload_n rfl rfl ?_
    refine w_aload_n rfl rfl ?_
    refine m_get rfl rfl ?_
    refine w_icge_f rfl (by first | omega | exact (hg.2 _ _ _).1 | exact (hg.1 _).1 | (simp only [Int.toNat_natCast, upF_2] at *; omega)) (by first | omega | exact (hg.2 _ _ _).2 | exact (hg.1 _).2 | (simp only [Int.toNat_natCast, upF_2] at *; omega)) (by first | omega | exact (hg.2 _ _ _).1 | exact (hg.1 _).1 | (simp only [Int.toNat_natCast, upF_2] at *; omega)) (by first | omega | exact (hg.2 _ _ _).2 | exact (hg.1 _).2 | (simp only [Int.toNat_natCast, upF_2] at *; omega)) (by first | omega | (simp only [Int.toNat_natCast, upF_2] at *; omega)) ?_
    refine w_iload_n rfl rfl ?_
    refine w_sipush rfl rfl ?_
    refine w_icle_f rfl (by first | omega | exact (hg.2 _ _ _).1 | exact (hg.1 _).1 | (simp only [Int.toNat_natCast, upF_2] at *; omega)) (by first | omega | exact (hg.2 _ _ _).2 | exact (hg.1 _).2 | (simp only [Int.toNat_natCast, upF_2] at *; omega)) (by first | omega | exact (hg.2 _ _ _).1 | exact (hg.1 _).1 | (simp only [Int.toNat_natCast, upF_2] at *; omega)) (by first | omega | exact (hg.2 _ _ _).2 | exact (hg.1 _).2 | (simp only [Int.toNat_natCast, upF_2] at *; omega)) (by first | omega | (simp only [Int.toNat_natCast, upF_2] at *; omega)) ?_
    refine w_iconst rfl ?_
    refine w_zreturn rfl rfl (by first | omega | (simp only [Int.toNat_natCast, upF_2] at *; omega)) ?_
    exact ⟨rfl, rfl⟩
theorem r_wr1 (hb : b < m0) (hg : Rg ρ) (d : Nat) {v c : Int} (k1 : 4 ≤ ρ.1 8) (k2 : ρ.1 8 ≤ 1000) (w1 : 0 ≤ ρ.1 9) (w2 : ρ.1 9 ≤ 4000) (hw : rWr ρ v c) : Wp b L xs d mi_128 0 (ent (mL mi_128) [.ref m0, vI v, vI c]) [] (RH m0 h ρ) (Rt (RH m0 h (ρ)) (vI 1)) := by
  obtain ⟨q1, q2, q3, q4, q5⟩ := hw
  have hz1 : 0 ≤ v * (ρ.1 8 - 1) := Int.mul_nonneg (by omega) (by omega)
  have hz2 : v * (ρ.1 8 - 1) ≤ 4000 * 999 := Int.mul_le_mul (by omega) (by omega) (by omega) (by omega)
  by_cases q6 : c = 0
  · rw [if_pos q6] at q5
    refine w_iload_n rfl rfl ?_
    refine w_iflt_f rfl (by first | omega | exact (hg.2 _ _ _).1 | exact (hg.1 _).1 | (simp only [Int.toNat_natCast, upF_2] at *; omega)) (by first | omega | exact (hg.2 _ _ _).2 | exact (hg.1 _).2 | (simp only [Int.toNat_natCast, upF_2] at *; omega)) (by first | omega | (simp only [Int.toNat_natCast, upF_2] at *; omega)) ?_
    refine w_iload_n rfl rfl ?_
    refine w_iflt_f rfl (by first | omega | exact (hg.2 _ _ _).1 | exact (hg.1 _).1 | (simp only [Int.toNat_natCast, upF_2] at *; omega)) (by first | omega | exact (hg.2 _ _ _).2 | exact (hg.1 _).2 | (simp only [Int.toNat_natCast, upF_2] at *; omega)) (by first | omega | (simp only [Int.toNat_natCast, upF_2] at *; omega)) ?_
    refine w_iload_n rfl rfl ?_
    refine w_aload_n rfl rfl ?_
    refine m_get rfl rfl ?_
    refine w_icge_f rfl (by first | omega | exact (hg.2 _ _ _).1 | exact (hg.1 _).1 | (simp only [Int.toNat_natCast, upF_2] at *; omega)) (by first | omega | exact (hg.2 _ _ _).2 | exact (hg.1 _).2 | (simp only [Int.toNat_natCast, upF_2] at *; omega)) (by first | omega | exact (hg.2 _ _ _).1 | exact (hg.1 _).1 | (simp only [Int.toNat_natCast, upF_2] at *; omega)) (by first | omega | exact (hg.2 _ _ _).2 | exact (hg.1 _).2 | (simp only [Int.toNat_natCast, upF_2] at *; omega)) (by first | omega | (simp only [Int.toNat_natCast, upF_2] at *; omega)) ?_
    refine w_iload_n rfl rfl ?_
    refine w_sipush rfl rfl ?_
    refine w_icle_t rfl (by first | omega | exact (hg.2 _ _ _).1 | exact (hg.1 _).1 | (simp only [Int.toNat_natCast, upF_2] at *; omega)) (by first | omega | exact (hg.2 _ _ _).2 | exact (hg.1 _).2 | (simp only [Int.toNat_natCast, upF_2] at *; omega)) (by first | omega | exact (hg.2 _ _ _).1 | exact (hg.1 _).1 | (simp only [Int.toNat_natCast, upF_2] at *; omega)) (by first | omega | exact (hg.2 _ _ _).2 | exact (hg.1 _).2 | (simp only [Int.toNat_natCast, upF_2] at *; omega)) (by first | omega | (simp only [Int.toNat_natCast, upF_2] at *; omega)) ?_
    refine w_iload_n rfl rfl ?_
    refine w_ifne_f rfl (by first | omega | exact (hg.2 _ _ _).1 | exact (hg.1 _).1 | (simp only [Int.toNat_natCast, upF_2] at *; omega)) (by first | omega | exact (hg.2 _ _ _).2 | exact (hg.1 _).2 | (simp only [Int.toNat_natCast, upF_2] at *; omega)) (by first | omega | (simp only [Int.toNat_natCast, upF_2] at *; omega)) ?_
    refine w_iload_n rfl rfl ?_
    refine w_i2lJ rfl (by first | omega | exact (hg.2 _ _ _).1 | exact (hg.1 _).1 | (simp only [Int.toNat_natCast, upF_2] at *; omega)) (by first | omega | exact (hg.2 _ _ _).2 | exact (hg.1 _).2 | (simp only [Int.toNat_natCast, upF_2] at *; omega)) ?_
    refine w_aload_n rfl rfl ?_
    refine m_get rfl rfl ?_
    refine w_iconst rfl ?_
    refine w_isub rfl ?_
    refine w_i2lJ rfl (by first | omega | exact (hg.2 _ _ _).1 | exact (hg.1 _).1 | (simp only [Int.toNat_natCast, upF_2] at *; omega)) (by first | omega | exact (hg.2 _ _ _).2 | exact (hg.1 _).2 | (simp only [Int.toNat_natCast, upF_2] at *; omega)) ?_
    refine w_lmulJ rfl ?_
    refine w_aload_n rfl rfl ?_
    refine m_get rfl rfl ?_
    refine w_i2lJ rfl (by first | omega | exact (hg.2 _ _ _).1 | exact (hg.1 _).1 | (simp only [Int.toNat_natCast, upF_2] at *; omega)) (by first | omega | exact (hg.2 _ _ _).2 | exact (hg.1 _).2 | (simp only [Int.toNat_natCast, upF_2] at *; omega)) ?_
    refine w_lcmpJ rfl (by first | omega | (refine Int.le_trans ?_ hz1; omega)) (by first | omega | (refine Int.le_trans hz2 ?_; omega)) (by first | omega | (refine Int.le_trans ?_ hz1; omega)) (by first | omega | (refine Int.le_trans hz2 ?_; omega)) ?_
    refine w_ifge_f rfl (by first | omega | exact (hg.2 _ _ _).1 | exact (hg.1 _).1 | (simp only [Int.toNat_natCast, upF_2] at *; omega)) (by first | omega | exact (hg.2 _ _ _).2 | exact (hg.1 _).2 | (simp only [Int.toNat_natCast, upF_2] at *; omega)) (by split <;> (try split) <;> omega) ?_
    refine w_iconst rfl ?_
    refine w_goto rfl ?_
    refine w_zreturn rfl rfl (by first | omega | (simp only [Int.toNat_natCast, upF_2] at *; omega)) ?_
    exact ⟨rfl, rfl⟩
  · rw [if_neg q6] at q5
    refine w_iload_n rfl rfl ?_
    refine w_iflt_f rfl (by first | omega | exact (hg.2 _ _ _).1 | exact (hg.1 _).1 | (simp only [Int.toNat_natCast, upF_2] at *; omega)) (by first | omega | exact (hg.2 _ _ _).2 | exact (hg.1 _).2 | (simp only [Int.toNat_natCast, upF_2] at *; omega)) (by first | omega | (simp only [Int.toNat_natCast, upF_2] at *; omega)) ?_
    refine w_iload_n rfl rfl ?_
    refine w_iflt_f rfl (by first | omega | exact (hg.2 _ _ _).1 | exact (hg.1 _).1 | (simp only [Int.toNat_natCast, upF_2] at *; omega)) (by first | omega | exact (hg.2 _ _ _).2 | exact (hg.1 _).2 | (simp only [Int.toNat_natCast, upF_2] at *; omega)) (by first | omega | (simp only [Int.toNat_natCast, upF_2] at *; omega)) ?_
    refine w_iload_n rfl rfl ?_
    refine w_aload_n rfl rfl ?_
    refine m_get rfl rfl ?_
    refine w_icge_f rfl (by first | omega | exact (hg.2 _ _ _).1 | exact (hg.1 _).1 | (simp only [Int.toNat_natCast, upF_2] at *; omega)) (by first | omega | exact (hg.2 _ _ _).2 | exact (hg.1 _).2 | (simp only [Int.toNat_natCast, upF_2] at *; omega)) (by first | omega | exact (hg.2 _ _ _).1 | exact (hg.1 _).1 | (simp only [Int.toNat_natCast, upF_2] at *; omega)) (by first | omega | exact (hg.2 _ _ _).2 | exact (hg.1 _).2 | (simp only [Int.toNat_natCast, upF_2] at *; omega)) (by first | omega | (simp only [Int.toNat_natCast, upF_2] at *; omega)) ?_
    refine w_iload_n rfl rfl ?_
    refine w_sipush rfl rfl ?_
    refine w_icle_t rfl (by first | omega | exact (hg.2 _ _ _).1 | exact (hg.1 _).1 | (simp only [Int.toNat_natCast, upF_2] at *; omega)) (by first | omega | exact (hg.2 _ _ _).2 | exact (hg.1 _).2 | (simp only [Int.toNat_natCast, upF_2] at *; omega)) (by first | omega | exact (hg.2 _ _ _).1 | exact (hg.1 _).1 | (simp only [Int.toNat_natCast, upF_2] at *; omega)) (by first | omega | exact (hg.2 _ _ _).2 | exact (hg.1 _).2 | (simp only [Int.toNat_natCast, upF_2] at *; omega)) (by first | omega | (simp only [Int.toNat_natCast, upF_2] at *; omega)) ?_
    refine w_iload_n rfl rfl ?_
    refine w_ifne_t rfl (by first | omega | exact (hg.2 _ _ _).1 | exact (hg.1 _).1 | (simp only [Int.toNat_natCast, upF_2] at *; omega)) (by first | omega | exact (hg.2 _ _ _).2 | exact (hg.1 _).2 | (simp only [Int.toNat_natCast, upF_2] at *; omega)) (by first | omega | (simp only [Int.toNat_natCast, upF_2] at *; omega)) ?_
    refine w_iload_n rfl rfl ?_
    refine w_i2lJ rfl (by first | omega | exact (hg.2 _ _ _).1 | exact (hg.1 _).1 | (simp only [Int.toNat_natCast, upF_2] at *; omega)) (by first | omega | exact (hg.2 _ _ _).2 | exact (hg.1 _).2 | (simp only [Int.toNat_natCast, upF_2] at *; omega)) ?_
    refine w_aload_n rfl rfl ?_
    refine m_get rfl rfl ?_
    refine w_iconst rfl ?_
    refine w_isub rfl ?_
    refine w_i2lJ rfl (by first | omega | exact (hg.2 _ _ _).1 | exact (hg.1 _).1 | (simp only [Int.toNat_natCast, upF_2] at *; omega)) (by first | omega | exact (hg.2 _ _ _).2 | exact (hg.1 _).2 | (simp only [Int.toNat_natCast, upF_2] at *; omega)) ?_
    refine w_lmulJ rfl ?_
    refine w_iload_n rfl rfl ?_
    refine w_i2lJ rfl (by first | omega | exact (hg.2 _ _ _).1 | exact (hg.1 _).1 | (simp only [Int.toNat_natCast, upF_2] at *; omega)) (by first | omega | exact (hg.2 _ _ _).2 | exact (hg.1 _).2 | (simp only [Int.toNat_natCast, upF_2] at *; omega)) ?_
    refine w_laddJ rfl ?_
    refine w_lconst rfl ?_
    refine w_lsubJ (y := 1) rfl ?_
    refine w_aload_n rfl rfl ?_
    refine m_get rfl rfl ?_
    refine w_i2lJ rfl (by first | omega | exact (hg.2 _ _ _).1 | exact (hg.1 _).1 | (simp only [Int.toNat_natCast, upF_2] at *; omega)) (by first | omega | exact (hg.2 _ _ _).2 | exact (hg.1 _).2 | (simp only [Int.toNat_natCast, upF_2] at *; omega)) ?_
    refine w_lcmpJ rfl (by omega) (by omega) (by omega) (by omega) ?_
    refine w_ifge_f rfl (by first | omega | exact (hg.2 _ _ _).1 | exact (hg.1 _).1 | (simp only [Int.toNat_natCast, upF_2] at *; omega)) (by first | omega | exact (hg.2 _ _ _).2 | exact (hg.1 _).2 | (simp only [Int.toNat_natCast, upF_2] at *; omega)) (by split <;> (try split) <;> omega) ?_
    refine w_iconst rfl ?_
    refine w_goto rfl ?_
    refine w_zreturn rfl rfl (by first | omega | (simp only [Int.toNat_natCast, upF_2] at *; omega)) ?_
    exact ⟨rfl, rfl⟩
end Rr2
end
section
theorem fnd_lo (p : Nat → Prop) [DecidablePred p] : ∀ m k : Nat, -1 ≤ fnd p k m
  | 0, _ => Int.le_refl _
  | m + 1, k => by
    have := fnd_lo p m (k + 1)
    unfold fnd
    split <;> omega
theorem fnd_hi (p : Nat → Prop) [DecidablePred p] : ∀ m k : Nat, fnd p k m < ((k + m : Nat) : Int) ∨ fnd p k m = -1
  | 0, _ => Or.inr rfl
  | m + 1, k => by
    have := fnd_hi p m (k + 1)
    unfold fnd
    split <;> omega
theorem rNamed_lo (ρ : RS) (p c : Int) : -1 ≤ rNamed ρ p c := fnd_lo _ _ _
theorem rNamed_hi (ρ : RS) (p c : Int) : rNamed ρ p c < 256 := by
  have := fnd_hi (fun n => ρ.2 1 0 n ≠ 0 ∧ ρ.2 2 0 n = p ∧ ρ.2 3 0 n = c) 255 1
  unfold rNamed
  omega
/-! the reference's calls on the tree -/
def rBegin (ρ : RS) (v : Int) : RS := upF (upF (upF (upF (rz (rz (upF (upF (upF (upF (upF (upF (upF (upA (upA (upA (upA (rz (upF ρ 0 0) 1 256) 1 0 0 2) 2 0 0 0) 3 0 0 0) 5 0 0 0) 7 0) 8 v) 9 0) 16 0) 27 0) 28 0) 29 0) 30 4001) 31 4001) 42 0) 43 0) 44 0) 45 0
section Rr3
variable {b L : Nat} {xs : Nat → Int32} {m0 : Nat} {h : AH} {ρ : RS}
theorem r_begin_l1 {Q : AH → RO → Prop} (d : Nat) {v : Int} : ∀ m k : Nat, k + m = 256 → Wp b L xs d mi_111 48 [some (.ref m0), some (vI v), some (vI 256)] [] (RH m0 h (rz ρ 1 256)) Q → Wp b L xs d mi_111 28 [some (.ref m0), some (vI v), some (vI k)] [] (RH m0 h (rz ρ 1 k)) Q := by
  intro m
  induction m with
  | zero =>
    intro k hk kk
    obtain rfl : k = 256 := hk
    refine w_iload_n rfl rfl ?_
    refine w_sipush rfl rfl ?_
    refine w_icge_t rfl (by first | omega | exact (hg.2 _ _ _).1 | exact (hg.1 _).1 | (simp only [Int.toNat_natCast, upF_2] at *; omega)) (by first | omega | exact (hg.2 _ _ _).2 | exact (hg.1 _).2 | (simp only [Int.toNat_natCast, upF_2] at *; omega)) (by first | omega | exact (hg.2 _ _ _).1 | exact (hg.1 _).1 | (simp only [Int.toNat_natCast, upF_2] at *; omega)) (by first | omega | exact (hg.2 _ _ _).2 | exact (hg.1 _).2 | (simp only [Int.toNat_natCast, upF_2] at *; omega)) (by first | omega | (simp only [Int.toNat_natCast, upF_2] at *; omega)) ?_
    exact kk
  | succ m ih =>
    intro k hk kk
    refine w_iload_n rfl rfl ?_
    refine w_sipush rfl rfl ?_
    refine w_icge_f rfl (by first | omega | exact (hg.2 _ _ _).1 | exact (hg.1 _).1 | (simp only [Int.toNat_natCast, upF_2] at *; omega)) (by first | omega | exact (hg.2 _ _ _).2 | exact (hg.1 _).2 | (simp only [Int.toNat_natCast, upF_2] at *; omega)) (by first | omega | exact (hg.2 _ _ _).1 | exact (hg.1 _).1 | (simp only [Int.toNat_natCast, upF_2] at *; omega)) (by first | omega | exact (hg.2 _ _ _).2 | exact (hg.1 _).2 | (simp only [Int.toNat_natCast, upF_2] at *; omega)) (by first | omega | (simp only [Int.toNat_natCast, upF_2] at *; omega)) ?_
    refine w_aload_n rfl rfl ?_
    refine m_get rfl rfl ?_
    refine w_iload_n rfl rfl ?_
    refine w_iconst rfl ?_
    refine m_iastore rfl rl_1 (by first | omega | (simp only [Int.toNat_natCast, upF_2] at *; omega)) (by first | omega | (simp only [Int.toNat_natCast, upF_2] at *; omega)) ?_
    refine w_iinc rfl rfl (by decide) ?_
    refine w_goto rfl ?_
    rw [Int.toNat_natCast, rz_succ]
    exact ih (k + 1) (by omega) kk
theorem r_begin_l2 {Q : AH → RO → Prop} (d : Nat) {v : Int} : ∀ m k : Nat, k + m = 4001 → Wp b L xs d mi_111 140 [some (.ref m0), some (vI v), some (vI 4001)] [] (RH m0 h (rz (rz ρ 30 4001) 31 4001)) Q → Wp b L xs d mi_111 113 [some (.ref m0), some (vI v), some (vI k)] [] (RH m0 h (rz (rz ρ 30 k) 31 k)) Q := by
  intro m
  induction m with
  | zero =>
    intro k hk kk
    obtain rfl : k = 4001 := hk
    refine w_iload_n rfl rfl ?_
    refine w_sipush rfl rfl ?_
    refine w_icgt_t rfl (by first | omega | exact (hg.2 _ _ _).1 | exact (hg.1 _).1 | (simp only [Int.toNat_natCast, upF_2] at *; omega)) (by first | omega | exact (hg.2 _ _ _).2 | exact (hg.1 _).2 | (simp only [Int.toNat_natCast, upF_2] at *; omega)) (by first | omega | exact (hg.2 _ _ _).1 | exact (hg.1 _).1 | (simp only [Int.toNat_natCast, upF_2] at *; omega)) (by first | omega | exact (hg.2 _ _ _).2 | exact (hg.1 _).2 | (simp only [Int.toNat_natCast, upF_2] at *; omega)) (by first | omega | (simp only [Int.toNat_natCast, upF_2] at *; omega)) ?_
    exact kk
  | succ m ih =>
    intro k hk kk
    refine w_iload_n rfl rfl ?_
    refine w_sipush rfl rfl ?_
    refine w_icgt_f rfl (by first | omega | exact (hg.2 _ _ _).1 | exact (hg.1 _).1 | (simp only [Int.toNat_natCast, upF_2] at *; omega)) (by first | omega | exact (hg.2 _ _ _).2 | exact (hg.1 _).2 | (simp only [Int.toNat_natCast, upF_2] at *; omega)) (by first | omega | exact (hg.2 _ _ _).1 | exact (hg.1 _).1 | (simp only [Int.toNat_natCast, upF_2] at *; omega)) (by first | omega | exact (hg.2 _ _ _).2 | exact (hg.1 _).2 | (simp only [Int.toNat_natCast, upF_2] at *; omega)) (by first | omega | (simp only [Int.toNat_natCast, upF_2] at *; omega)) ?_
    refine w_aload_n rfl rfl ?_
    refine m_get rfl rfl ?_
    refine w_iload_n rfl rfl ?_
    refine w_iconst rfl ?_
    refine m_zastore rfl rl_30 (by first | omega | (simp only [Int.toNat_natCast, upF_2] at *; omega)) (by first | omega | (simp only [Int.toNat_natCast, upF_2] at *; omega)) (by first | omega | (simp only [Int.toNat_natCast, upF_2] at *; omega)) ?_
    refine w_aload_n rfl rfl ?_
    refine m_get rfl rfl ?_
    refine w_iload_n rfl rfl ?_
    refine w_iconst rfl ?_
    refine m_zastore rfl rl_31 (by first | omega | (simp only [Int.toNat_natCast, upF_2] at *; omega)) (by first | omega | (simp only [Int.toNat_natCast, upF_2] at *; omega)) (by first | omega | (simp only [Int.toNat_natCast, upF_2] at *; omega)) ?_
    refine w_iinc rfl rfl (by decide) ?_
    refine w_goto rfl ?_
    rw [Int.toNat_natCast, rz_succ2 _ _ _ _ (by decide)]
    exact ih (k + 1) (by omega) kk
theorem r_begin_e (hb : b < m0) (hg : Rg ρ) (d : Nat) (hd : 1 ≤ d) {v : Int} (v1 : -2147483648 ≤ v) (v2 : v ≤ 2147483647) (hc : v < 4 ∨ 1000 < v) : Wp b L xs d mi_111 0 (ent (mL mi_111) [.ref m0, vI v]) [] (RH m0 h ρ) (Rn (RH m0 h (upF ρ 0 1))) := by
  by_cases c1 : v < 4
  · refine w_aload_n rfl rfl ?_
    refine w_iload_n rfl rfl ?_
    refine w_iconst rfl ?_
    refine w_iclt_t rfl (by first | omega | exact (hg.2 _ _ _).1 | exact (hg.1 _).1 | (simp only [Int.toNat_natCast, upF_2] at *; omega)) (by first | omega | exact (hg.2 _ _ _).2 | exact (hg.1 _).2 | (simp only [Int.toNat_natCast, upF_2] at *; omega)) (by first | omega | exact (hg.2 _ _ _).1 | exact (hg.1 _).1 | (simp only [Int.toNat_natCast, upF_2] at *; omega)) (by first | omega | exact (hg.2 _ _ _).2 | exact (hg.1 _).2 | (simp only [Int.toNat_natCast, upF_2] at *; omega)) (by first | omega | (simp only [Int.toNat_natCast, upF_2] at *; omega)) ?_
    refine w_iconst rfl ?_
    refine w_goto rfl ?_
    refine w_iconst rfl ?_
    refine w_cvV rfl (by decide) (by first | omega | (simp only [Int.toNat_natCast, upF_2] at *; omega)) rfl RH_obj mt_112 (Nat.le_of_ble_eq_true rfl) (Nat.le_of_ble_eq_true rfl) (r_fails1 hb (by assumption) _) ?_
    refine w_ifeq_f rfl (by first | omega | exact (hg.2 _ _ _).1 | exact (hg.1 _).1 | (simp only [Int.toNat_natCast, upF_2] at *; omega)) (by first | omega | exact (hg.2 _ _ _).2 | exact (hg.1 _).2 | (simp only [Int.toNat_natCast, upF_2] at *; omega)) (by first | omega | (simp only [Int.toNat_natCast, upF_2] at *; omega)) ?_
    refine w_return rfl rfl ?_
    exact ⟨rfl, rfl⟩
  refine w_aload_n rfl rfl ?_
  refine w_iload_n rfl rfl ?_
  refine w_iconst rfl ?_
  refine w_iclt_f rfl (by first | omega | exact (hg.2 _ _ _).1 | exact (hg.1 _).1 | (simp only [Int.toNat_natCast, upF_2] at *; omega)) (by first | omega | exact (hg.2 _ _ _).2 | exact (hg.1 _).2 | (simp only [Int.toNat_natCast, upF_2] at *; omega)) (by first | omega | exact (hg.2 _ _ _).1 | exact (hg.1 _).1 | (simp only [Int.toNat_natCast, upF_2] at *; omega)) (by first | omega | exact (hg.2 _ _ _).2 | exact (hg.1 _).2 | (simp only [Int.toNat_natCast, upF_2] at *; omega)) (by first | omega | (simp only [Int.toNat_natCast, upF_2] at *; omega)) ?_
  refine w_iload_n rfl rfl ?_
  refine w_sipush rfl rfl ?_
  refine w_icle_f rfl (by first | omega | exact (hg.2 _ _ _).1 | exact (hg.1 _).1 | (simp only [Int.toNat_natCast, upF_2] at *; omega)) (by first | omega | exact (hg.2 _ _ _).2 | exact (hg.1 _).2 | (simp only [Int.toNat_natCast, upF_2] at *; omega)) (by first | omega | exact (hg.2 _ _ _).1 | exact (hg.1 _).1 | (simp only [Int.toNat_natCast, upF_2] at *; omega)) (by first | omega | exact (hg.2 _ _ _).2 | exact (hg.1 _).2 | (simp only [Int.toNat_natCast, upF_2] at *; omega)) (by first | omega | (simp only [Int.toNat_natCast, upF_2] at *; omega)) ?_
  refine w_iconst rfl ?_
  refine w_goto rfl ?_
  refine w_iconst rfl ?_
  refine w_cvV rfl (by decide) (by first | omega | (simp only [Int.toNat_natCast, upF_2] at *; omega)) rfl RH_obj mt_112 (Nat.le_of_ble_eq_true rfl) (Nat.le_of_ble_eq_true rfl) (r_fails1 hb (by assumption) _) ?_
  refine w_ifeq_f rfl (by first | omega | exact (hg.2 _ _ _).1 | exact (hg.1 _).1 | (simp only [Int.toNat_natCast, upF_2] at *; omega)) (by first | omega | exact (hg.2 _ _ _).2 | exact (hg.1 _).2 | (simp only [Int.toNat_natCast, upF_2] at *; omega)) (by first | omega | (simp only [Int.toNat_natCast, upF_2] at *; omega)) ?_
  refine w_return rfl rfl ?_
  exact ⟨rfl, rfl⟩
theorem r_begin (hb : b < m0) (hg : Rg ρ) (d : Nat) (hd : 1 ≤ d) {v : Int} (v1 : 4 ≤ v) (v2 : v ≤ 1000) : Wp b L xs d mi_111 0 (ent (mL mi_111) [.ref m0, vI v]) [] (RH m0 h ρ) (Rn (RH m0 h (rBegin ρ v))) := by
  refine w_aload_n rfl rfl ?_
  refine w_iload_n rfl rfl ?_
  refine w_iconst rfl ?_
  refine w_iclt_f rfl (by first | omega | exact (hg.2 _ _ _).1 | exact (hg.1 _).1 | (simp only [Int.toNat_natCast, upF_2] at *; omega)) (by first | omega | exact (hg.2 _ _ _).2 | exact (hg.1 _).2 | (simp only [Int.toNat_natCast, upF_2] at *; omega)) (by first | omega | exact (hg.2 _ _ _).1 | exact (hg.1 _).1 | (simp only [Int.toNat_natCast, upF_2] at *; omega)) (by first | omega | exact (hg.2 _ _ _).2 | exact (hg.1 _).2 | (simp only [Int.toNat_natCast, upF_2] at *; omega)) (by first | omega | (simp only [Int.toNat_natCast, upF_2] at *; omega)) ?_
  refine w_iload_n rfl rfl ?_
  refine w_sipush rfl rfl ?_
  refine w_icle_t rfl (by first | omega | exact (hg.2 _ _ _).1 | exact (hg.1 _).1 | (simp only [Int.toNat_natCast, upF_2] at *; omega)) (by first | omega | exact (hg.2 _ _ _).2 | exact (hg.1 _).2 | (simp only [Int.toNat_natCast, upF_2] at *; omega)) (by first | omega | exact (hg.2 _ _ _).1 | exact (hg.1 _).1 | (simp only [Int.toNat_natCast, upF_2] at *; omega)) (by first | omega | exact (hg.2 _ _ _).2 | exact (hg.1 _).2 | (simp only [Int.toNat_natCast, upF_2] at *; omega)) (by first | omega | (simp only [Int.toNat_natCast, upF_2] at *; omega)) ?_
  refine w_iconst rfl ?_
  refine w_iconst rfl ?_
  refine w_cvV rfl (by decide) (by first | omega | (simp only [Int.toNat_natCast, upF_2] at *; omega)) rfl RH_obj mt_112 (Nat.le_of_ble_eq_true rfl) (Nat.le_of_ble_eq_true rfl) (r_fails0 hb (by assumption) _) ?_
  refine w_ifeq_t rfl (by first | omega | exact (hg.2 _ _ _).1 | exact (hg.1 _).1 | (simp only [Int.toNat_natCast, upF_2] at *; omega)) (by first | omega | exact (hg.2 _ _ _).2 | exact (hg.1 _).2 | (simp only [Int.toNat_natCast, upF_2] at *; omega)) (by first | omega | (simp only [Int.toNat_natCast, upF_2] at *; omega)) ?_
  refine w_iconst rfl ?_
  refine w_istore_n rfl (by decide) ?_
  rw [← rz_zero (upF ρ 0 0) 1]
  refine r_begin_l1 d 256 0 rfl ?_
  refine w_aload_n rfl rfl ?_
  refine m_get rfl rfl ?_
  refine w_iconst rfl ?_
  refine w_iconst rfl ?_
  refine m_iastore rfl rl_1 (by first | omega | (simp only [Int.toNat_natCast, upF_2] at *; omega)) (by first | omega | (simp only [Int.toNat_natCast, upF_2] at *; omega)) ?_
  refine w_aload_n rfl rfl ?_
  refine m_get rfl rfl ?_
  refine w_iconst rfl ?_
  refine w_iconst rfl ?_
  refine m_iastore rfl rl_2 (by first | omega | (simp only [Int.toNat_natCast, upF_2] at *; omega)) (by first | omega | (simp only [Int.toNat_natCast, upF_2] at *; omega)) ?_
  refine w_aload_n rfl rfl ?_
  refine m_get rfl rfl ?_
  refine w_iconst rfl ?_
  refine w_iconst rfl ?_
  refine m_iastore rfl rl_3 (by first | omega | (simp only [Int.toNat_natCast, upF_2] at *; omega)) (by first | omega | (simp only [Int.toNat_natCast, upF_2] at *; omega)) ?_
  refine w_aload_n rfl rfl ?_
  refine m_get rfl rfl ?_
  refine w_iconst rfl ?_
  refine w_iconst rfl ?_
  refine m_iastore rfl rl_5 (by first | omega | (simp only [Int.toNat_natCast, upF_2] at *; omega)) (by first | omega | (simp only [Int.toNat_natCast, upF_2] at *; omega)) ?_
  refine w_aload_n rfl rfl ?_
  refine w_iconst rfl ?_
  refine m_put rfl rfl rfl rfl ?_
  refine w_aload_n rfl rfl ?_
  refine w_iload_n rfl rfl ?_
  refine m_put rfl rfl rfl rfl ?_
  refine w_aload_n rfl rfl ?_
  refine w_iconst rfl ?_
  refine m_put rfl rfl rfl rfl ?_
  refine w_aload_n rfl rfl ?_
  refine w_iconst rfl ?_
  refine m_put rfl rfl rfl rfl ?_
  refine w_aload_n rfl rfl ?_
  refine w_iconst rfl ?_
  refine m_put rfl rfl rfl rfl ?_
  refine w_aload_n rfl rfl ?_
  refine w_iconst rfl ?_
  refine m_put rfl rfl rfl rfl ?_
  refine w_aload_n rfl rfl ?_
  refine w_iconst rfl ?_
  refine m_put rfl rfl rfl rfl ?_
  refine w_iconst rfl ?_
  refine w_istore_n rfl (by decide) ?_
  suffices kk : Wp b L xs d mi_111 140 [some (.ref m0), some (vI v), some (vI 4001)] [] (RH m0 h (rz (rz (upF (upF (upF (upF (upF (upF (upF (upA (upA (upA (upA (rz (upF ρ 0 0) 1 256) 1 0 0 2) 2 0 0 0) 3 0 0 0) 5 0 0 0) 7 0) 8 v) 9 0) 16 0) 27 0) 28 0) 29 0) 30 4001) 31 4001)) (Rn (RH m0 h (rBegin ρ v))) by
    have k2 := r_begin_l2 d 4001 0 rfl kk
    rw [rz_zero, rz_zero] at k2
    exact k2
  refine w_aload_n rfl rfl ?_
  refine w_iconst rfl ?_
  refine m_put rfl rfl rfl rfl ?_
  refine w_aload_n rfl rfl ?_
  refine w_iconst rfl ?_
  refine m_put rfl rfl rfl rfl ?_
  refine w_aload_n rfl rfl ?_
  refine w_iconst rfl ?_
  refine m_put rfl rfl rfl rfl ?_
  refine w_aload_n rfl rfl ?_
  refine w_iconst rfl ?_
  refine m_put rfl rfl rfl rfl ?_
  refine w_return rfl rfl ?_
  exact ⟨rfl, rfl⟩
theorem r_make_1 (hb : b < m0) (hg : Rg ρ) (d : Nat) (hd : 1 ≤ d) {p c f : Int} (p1 : -2147483648 ≤ p) (p2 : p ≤ 2147483647) (c1 : -2147483648 ≤ c) (c2 : c ≤ 2147483647) (f1 : f = 0 ∨ f = 1) (hc : ¬ (0 ≤ p ∧ p < 256 ∧ ρ.2 1 0 p.toNat = 2) ∨ c < 1 ∨ 30000 < c) : Wp b L xs d mi_114 0 (ent (mL mi_114) [.ref m0, vI p, vI c, vI f]) [] (RH m0 h ρ) (Rt (RH m0 h (upF ρ 0 1)) (vI 0)) := by
  by_cases hp : 0 ≤ p ∧ p < 256 ∧ ρ.2 1 0 p.toNat = 2
  · by_cases q : c < 1
    · refine w_aload_n rfl rfl ?_
      refine w_aload_n rfl rfl ?_
      refine w_iload_n rfl rfl ?_
      refine w_iconst rfl ?_
      refine w_cvV rfl (by decide) (by first | omega | (simp only [Int.toNat_natCast, upF_2] at *; omega)) rfl RH_obj mt_115 (Nat.le_of_ble_eq_true rfl) (Nat.le_of_ble_eq_true rfl) (r_is1 hb (by assumption) _ hp (by decide) (by decide)) ?_
      refine w_ifeq_f rfl (by first | omega | exact (hg.2 _ _ _).1 | exact (hg.1 _).1 | (simp only [Int.toNat_natCast, upF_2] at *; omega)) (by first | omega | exact (hg.2 _ _ _).2 | exact (hg.1 _).2 | (simp only [Int.toNat_natCast, upF_2] at *; omega)) (by first | omega | (simp only [Int.toNat_natCast, upF_2] at *; omega)) ?_
      refine w_iload_n rfl rfl ?_
      refine w_iconst rfl ?_
      refine w_iclt_t rfl (by first | omega | exact (hg.2 _ _ _).1 | exact (hg.1 _).1 | (simp only [Int.toNat_natCast, upF_2] at *; omega)) (by first | omega | exact (hg.2 _ _ _).2 | exact (hg.1 _).2 | (simp only [Int.toNat_natCast, upF_2] at *; omega)) (by first | omega | exact (hg.2 _ _ _).1 | exact (hg.1 _).1 | (simp only [Int.toNat_natCast, upF_2] at *; omega)) (by first | omega | exact (hg.2 _ _ _).2 | exact (hg.1 _).2 | (simp only [Int.toNat_natCast, upF_2] at *; omega)) (by first | omega | (simp only [Int.toNat_natCast, upF_2] at *; omega)) ?_
      refine w_iconst rfl ?_
      refine w_goto rfl ?_
      refine w_iconst rfl ?_
      refine w_cvV rfl (by decide) (by first | omega | (simp only [Int.toNat_natCast, upF_2] at *; omega)) rfl RH_obj mt_112 (Nat.le_of_ble_eq_true rfl) (Nat.le_of_ble_eq_true rfl) (r_fails1 hb (by assumption) _) ?_
      refine w_ifeq_f rfl (by first | omega | exact (hg.2 _ _ _).1 | exact (hg.1 _).1 | (simp only [Int.toNat_natCast, upF_2] at *; omega)) (by first | omega | exact (hg.2 _ _ _).2 | exact (hg.1 _).2 | (simp only [Int.toNat_natCast, upF_2] at *; omega)) (by first | omega | (simp only [Int.toNat_natCast, upF_2] at *; omega)) ?_
      refine w_iconst rfl ?_
      refine w_ireturn rfl rfl ?_
      exact ⟨rfl, rfl⟩
    refine w_aload_n rfl rfl ?_
    refine w_aload_n rfl rfl ?_
    refine w_iload_n rfl rfl ?_
    refine w_iconst rfl ?_
    refine w_cvV rfl (by decide) (by first | omega | (simp only [Int.toNat_natCast, upF_2] at *; omega)) rfl RH_obj mt_115 (Nat.le_of_ble_eq_true rfl) (Nat.le_of_ble_eq_true rfl) (r_is1 hb (by assumption) _ hp (by decide) (by decide)) ?_
    refine w_ifeq_f rfl (by first | omega | exact (hg.2 _ _ _).1 | exact (hg.1 _).1 | (simp only [Int.toNat_natCast, upF_2] at *; omega)) (by first | omega | exact (hg.2 _ _ _).2 | exact (hg.1 _).2 | (simp only [Int.toNat_natCast, upF_2] at *; omega)) (by first | omega | (simp only [Int.toNat_natCast, upF_2] at *; omega)) ?_
    refine w_iload_n rfl rfl ?_
    refine w_iconst rfl ?_
    refine w_iclt_f rfl (by first | omega | exact (hg.2 _ _ _).1 | exact (hg.1 _).1 | (simp only [Int.toNat_natCast, upF_2] at *; omega)) (by first | omega | exact (hg.2 _ _ _).2 | exact (hg.1 _).2 | (simp only [Int.toNat_natCast, upF_2] at *; omega)) (by first | omega | exact (hg.2 _ _ _).1 | exact (hg.1 _).1 | (simp only [Int.toNat_natCast, upF_2] at *; omega)) (by first | omega | exact (hg.2 _ _ _).2 | exact (hg.1 _).2 | (simp only [Int.toNat_natCast, upF_2] at *; omega)) (by first | omega | (simp only [Int.toNat_natCast, upF_2] at *; omega)) ?_
    refine w_iload_n rfl rfl ?_
    refine w_sipush rfl rfl ?_
    refine w_icle_f rfl (by first | omega | exact (hg.2 _ _ _).1 | exact (hg.1 _).1 | (simp only [Int.toNat_natCast, upF_2] at *; omega)) (by first | omega | exact (hg.2 _ _ _).2 | exact (hg.1 _).2 | (simp only [Int.toNat_natCast, upF_2] at *; omega)) (by first | omega | exact (hg.2 _ _ _).1 | exact (hg.1 _).1 | (simp only [Int.toNat_natCast, upF_2] at *; omega)) (by first | omega | exact (hg.2 _ _ _).2 | exact (hg.1 _).2 | (simp only [Int.toNat_natCast, upF_2] at *; omega)) (by first | omega | (simp only [Int.toNat_natCast, upF_2] at *; omega)) ?_
    refine w_iconst rfl ?_
    refine w_goto rfl ?_
    refine w_iconst rfl ?_
    refine w_cvV rfl (by decide) (by first | omega | (simp only [Int.toNat_natCast, upF_2] at *; omega)) rfl RH_obj mt_112 (Nat.le_of_ble_eq_true rfl) (Nat.le_of_ble_eq_true rfl) (r_fails1 hb (by assumption) _) ?_
    refine w_ifeq_f rfl (by first | omega | exact (hg.2 _ _ _).1 | exact (hg.1 _).1 | (simp only [Int.toNat_natCast, upF_2] at *; omega)) (by first | omega | exact (hg.2 _ _ _).2 | exact (hg.1 _).2 | (simp only [Int.toNat_natCast, upF_2] at *; omega)) (by first | omega | (simp only [Int.toNat_natCast, upF_2] at *; omega)) ?_
    refine w_iconst rfl ?_
    refine w_ireturn rfl rfl ?_
    exact ⟨rfl, rfl⟩
  · refine w_aload_n rfl rfl ?_
    refine w_aload_n rfl rfl ?_
    refine w_iload_n rfl rfl ?_
    refine w_iconst rfl ?_
    refine w_cvV rfl (by decide) (by first | omega | (simp only [Int.toNat_natCast, upF_2] at *; omega)) rfl RH_obj mt_115 (Nat.le_of_ble_eq_true rfl) (Nat.le_of_ble_eq_true rfl) (r_is0 hb (by assumption) _ hp (by first | omega | exact (hg.2 _ _ _).1 | exact (hg.1 _).1 | (simp only [Int.toNat_natCast, upF_2] at *; omega)) (by first | omega | exact (hg.2 _ _ _).2 | exact (hg.1 _).2 | (simp only [Int.toNat_natCast, upF_2] at *; omega)) (by decide) (by decide)) ?_
    refine w_ifeq_t rfl (by first | omega | exact (hg.2 _ _ _).1 | exact (hg.1 _).1 | (simp only [Int.toNat_natCast, upF_2] at *; omega)) (by first | omega | exact (hg.2 _ _ _).2 | exact (hg.1 _).2 | (simp only [Int.toNat_natCast, upF_2] at *; omega)) (by first | omega | (simp only [Int.toNat_natCast, upF_2] at *; omega)) ?_
    refine w_iconst rfl ?_
    refine w_goto rfl ?_
    refine w_iconst rfl ?_
    refine w_cvV rfl (by decide) (by first | omega | (simp only [Int.toNat_natCast, upF_2] at *; omega)) rfl RH_obj mt_112 (Nat.le_of_ble_eq_true rfl) (Nat.le_of_ble_eq_true rfl) (r_fails1 hb (by assumption) _) ?_
    refine w_ifeq_f rfl (by first | omega | exact (hg.2 _ _ _).1 | exact (hg.1 _).1 | (simp only [Int.toNat_natCast, upF_2] at *; omega)) (by first | omega | exact (hg.2 _ _ _).2 | exact (hg.1 _).2 | (simp only [Int.toNat_natCast, upF_2] at *; omega)) (by first | omega | (simp only [Int.toNat_natCast, upF_2] at *; omega)) ?_
    refine w_iconst rfl ?_
    refine w_ireturn rfl rfl ?_
    exact ⟨rfl, rfl⟩
theorem r_make_2 (hb : b < m0) (hg : Rg ρ) (d : Nat) (hd : 1 ≤ d) {p c f : Int} (p1 : -2147483648 ≤ p) (p2 : p ≤ 2147483647) (c1 : -2147483648 ≤ c) (c2 : c ≤ 2147483647) (f1 : f = 0 ∨ f = 1) (hp : 0 ≤ p ∧ p < 256 ∧ ρ.2 1 0 p.toNat = 2) (q1 : 1 ≤ c) (q2 : c ≤ 30000) (q3 : 0 ≤ rNamed ρ p c) : Wp b L xs d mi_114 0 (ent (mL mi_114) [.ref m0, vI p, vI c, vI f]) [] (RH m0 h ρ) (Rt (RH m0 h (upF ρ 0 2)) (vI 0)) := by
  have hg0 : Rg (upF ρ 0 0) := hg.upF 0 (by decide) (by decide)
  have n1 : rNamed (upF ρ 0 0) p c = rNamed ρ p c := rfl
  have n2 := rNamed_hi ρ p c
  refine w_aload_n rfl rfl ?_
  refine w_aload_n rfl rfl ?_
  refine w_iload_n rfl rfl ?_
  refine w_iconst rfl ?_
  refine w_cvV rfl (by decide) (by first | omega | (simp only [Int.toNat_natCast, upF_2] at *; omega)) rfl RH_obj mt_115 (Nat.le_of_ble_eq_true rfl) (Nat.le_of_ble_eq_true rfl) (r_is1 hb (by assumption) _ hp (by decide) (by decide)) ?_
  refine w_ifeq_f rfl (by first | omega | exact (hg.2 _ _ _).1 | exact (hg.1 _).1 | (simp only [Int.toNat_natCast, upF_2] at *; omega)) (by first | omega | exact (hg.2 _ _ _).2 | exact (hg.1 _).2 | (simp only [Int.toNat_natCast, upF_2] at *; omega)) (by first | omega | (simp only [Int.toNat_natCast, upF_2] at *; omega)) ?_
  refine w_iload_n rfl rfl ?_
  refine w_iconst rfl ?_
  refine w_iclt_f rfl (by first | omega | exact (hg.2 _ _ _).1 | exact (hg.1 _).1 | (simp only [Int.toNat_natCast, upF_2] at *; omega)) (by first | omega | exact (hg.2 _ _ _).2 | exact (hg.1 _).2 | (simp only [Int.toNat_natCast, upF_2] at *; omega)) (by first | omega | exact (hg.2 _ _ _).1 | exact (hg.1 _).1 | (simp only [Int.toNat_natCast, upF_2] at *; omega)) (by first | omega | exact (hg.2 _ _ _).2 | exact (hg.1 _).2 | (simp only [Int.toNat_natCast, upF_2] at *; omega)) (by first | omega | (simp only [Int.toNat_natCast, upF_2] at *; omega)) ?_
  refine w_iload_n rfl rfl ?_
  refine w_sipush rfl rfl ?_
  refine w_icle_t rfl (by first | omega | exact (hg.2 _ _ _).1 | exact (hg.1 _).1 | (simp only [Int.toNat_natCast, upF_2] at *; omega)) (by first | omega | exact (hg.2 _ _ _).2 | exact (hg.1 _).2 | (simp only [Int.toNat_natCast, upF_2] at *; omega)) (by first | omega | exact (hg.2 _ _ _).1 | exact (hg.1 _).1 | (simp only [Int.toNat_natCast, upF_2] at *; omega)) (by first | omega | exact (hg.2 _ _ _).2 | exact (hg.1 _).2 | (simp only [Int.toNat_natCast, upF_2] at *; omega)) (by first | omega | (simp only [Int.toNat_natCast, upF_2] at *; omega)) ?_
  refine w_iconst rfl ?_
  refine w_iconst rfl ?_
  refine w_cvV rfl (by decide) (by first | omega | (simp only [Int.toNat_natCast, upF_2] at *; omega)) rfl RH_obj mt_112 (Nat.le_of_ble_eq_true rfl) (Nat.le_of_ble_eq_true rfl) (r_fails0 hb (by assumption) _) ?_
  refine w_ifeq_t rfl (by first | omega | exact (hg.2 _ _ _).1 | exact (hg.1 _).1 | (simp only [Int.toNat_natCast, upF_2] at *; omega)) (by first | omega | exact (hg.2 _ _ _).2 | exact (hg.1 _).2 | (simp only [Int.toNat_natCast, upF_2] at *; omega)) (by first | omega | (simp only [Int.toNat_natCast, upF_2] at *; omega)) ?_
  refine w_aload_n rfl rfl ?_
  refine w_aload_n rfl rfl ?_
  refine w_iload_n rfl rfl ?_
  refine w_iload_n rfl rfl ?_
  refine w_cvV rfl (by decide) (by first | omega | (simp only [Int.toNat_natCast, upF_2] at *; omega)) rfl RH_obj mt_116 (Nat.le_of_ble_eq_true rfl) (Nat.le_of_ble_eq_true rfl) (r_named hb (by assumption) _ (by first | omega | exact (hg.2 _ _ _).1 | exact (hg.1 _).1 | (simp only [Int.toNat_natCast, upF_2] at *; omega)) (by first | omega | exact (hg.2 _ _ _).2 | exact (hg.1 _).2 | (simp only [Int.toNat_natCast, upF_2] at *; omega)) (by first | omega | exact (hg.2 _ _ _).1 | exact (hg.1 _).1 | (simp only [Int.toNat_natCast, upF_2] at *; omega)) (by first | omega | exact (hg.2 _ _ _).2 | exact (hg.1 _).2 | (simp only [Int.toNat_natCast, upF_2] at *; omega))) ?_
  refine w_iflt_f rfl (by first | omega | exact (hg.2 _ _ _).1 | exact (hg.1 _).1 | (simp only [Int.toNat_natCast, upF_2] at *; omega)) (by first | omega | exact (hg.2 _ _ _).2 | exact (hg.1 _).2 | (simp only [Int.toNat_natCast, upF_2] at *; omega)) (by first | omega | (simp only [Int.toNat_natCast, upF_2] at *; omega)) ?_
  refine w_iconst rfl ?_
  refine w_goto rfl ?_
  refine w_iconst rfl ?_
  refine w_cvV rfl (by decide) (by first | omega | (simp only [Int.toNat_natCast, upF_2] at *; omega)) rfl RH_obj mt_112 (Nat.le_of_ble_eq_true rfl) (Nat.le_of_ble_eq_true rfl) (r_fails1 hb (by assumption) _) ?_
  rw [upF_upF]
  refine w_ifeq_f rfl (by first | omega | exact (hg.2 _ _ _).1 | exact (hg.1 _).1 | (simp only [Int.toNat_natCast, upF_2] at *; omega)) (by first | omega | exact (hg.2 _ _ _).2 | exact (hg.1 _).2 | (simp only [Int.toNat_natCast, upF_2] at *; omega)) (by first | omega | (simp only [Int.toNat_natCast, upF_2] at *; omega)) ?_
  refine w_iconst rfl ?_
  refine w_ireturn rfl rfl ?_
  exact ⟨rfl, rfl⟩
theorem r_make_l (hb : b < m0) (hg : Rg ρ) {Q : AH → RO → Prop} (d : Nat) {p c f : Int} {n : Nat} (hn : n ≤ 256) (he : n = 256 ∨ ρ.2 1 0 n = 0) (kk : Wp b L xs d mi_114 87 [some (.ref m0), some (vI p), some (vI c), some (vI f), some (vI n)] [] (RH m0 h ρ) Q) : ∀ m k : Nat, k + m = n → (∀ j, k ≤ j → j < n → ρ.2 1 0 j ≠ 0) → Wp b L xs d mi_114 63 [some (.ref m0), some (vI p), some (vI c), some (vI f), some (vI k)] [] (RH m0 h ρ) Q := by
  intro m
  induction m with
  | zero =>
    intro k hk hj
    obtain rfl : k = n := hk
    by_cases q : k = 256
    · refine w_iload rfl rfl ?_
      refine w_sipush rfl rfl ?_
      refine w_icge_t rfl (by first | omega | exact (hg.2 _ _ _).1 | exact (hg.1 _).1 | (simp only [Int.toNat_natCast, upF_2] at *; omega)) (by first | omega | exact (hg.2 _ _ _).2 | exact (hg.1 _).2 | (simp only [Int.toNat_natCast, upF_2] at *; omega)) (by first | omega | exact (hg.2 _ _ _).1 | exact (hg.1 _).1 | (simp only [Int.toNat_natCast, upF_2] at *; omega)) (by first | omega | exact (hg.2 _ _ _).2 | exact (hg.1 _).2 | (simp only [Int.toNat_natCast, upF_2] at *; omega)) (by first | omega | (simp only [Int.toNat_natCast, upF_2] at *; omega)) ?_
      exact kk
    have hq : ρ.2 1 0 k = 0 := by omega
    refine w_iload rfl rfl ?_
    refine w_sipush rfl rfl ?_
    refine w_icge_f rfl (by first | omega | exact (hg.2 _ _ _).1 | exact (hg.1 _).1 | (simp only [Int.toNat_natCast, upF_2] at *; omega)) (by first | omega | exact (hg.2 _ _ _).2 | exact (hg.1 _).2 | (simp only [Int.toNat_natCast, upF_2] at *; omega)) (by first | omega | exact (hg.2 _ _ _).1 | exact (hg.1 _).1 | (simp only [Int.toNat_natCast, upF_2] at *; omega)) (by first | omega | exact (hg.2 _ _ _).2 | exact (hg.1 _).2 | (simp only [Int.toNat_natCast, upF_2] at *; omega)) (by first | omega | (simp only [Int.toNat_natCast, upF_2] at *; omega)) ?_
    refine w_aload_n rfl rfl ?_
    refine m_get rfl rfl ?_
    refine w_iload rfl rfl ?_
    refine m_iaload rfl hb rl_1 (by first | omega | (simp only [Int.toNat_natCast, upF_2] at *; omega)) (by first | omega | (simp only [Int.toNat_natCast, upF_2] at *; omega)) ?_
    refine w_ifeq_t rfl (by first | omega | exact (hg.2 _ _ _).1 | exact (hg.1 _).1 | (simp only [Int.toNat_natCast, upF_2] at *; omega)) (by first | omega | exact (hg.2 _ _ _).2 | exact (hg.1 _).2 | (simp only [Int.toNat_natCast, upF_2] at *; omega)) (by first | omega | (simp only [Int.toNat_natCast, upF_2] at *; omega)) ?_
    exact kk
  | succ m ih =>
    intro k hk hj
    have hq := hj k (Nat.le_refl _) (by omega)
    refine w_iload rfl rfl ?_
    refine w_sipush rfl rfl ?_
    refine w_icge_f rfl (by first | omega | exact (hg.2 _ _ _).1 | exact (hg.1 _).1 | (simp only [Int.toNat_natCast, upF_2] at *; omega)) (by first | omega | exact (hg.2 _ _ _).2 | exact (hg.1 _).2 | (simp only [Int.toNat_natCast, upF_2] at *; omega)) (by first | omega | exact (hg.2 _ _ _).1 | exact (hg.1 _).1 | (simp only [Int.toNat_natCast, upF_2] at *; omega)) (by first | omega | exact (hg.2 _ _ _).2 | exact (hg.1 _).2 | (simp only [Int.toNat_natCast, upF_2] at *; omega)) (by first | omega | (simp only [Int.toNat_natCast, upF_2] at *; omega)) ?_
    refine w_aload_n rfl rfl ?_
    refine m_get rfl rfl ?_
    refine w_iload rfl rfl ?_
    refine m_iaload rfl hb rl_1 (by first | omega | (simp only [Int.toNat_natCast, upF_2] at *; omega)) (by first | omega | (simp only [Int.toNat_natCast, upF_2] at *; omega)) ?_
    refine w_ifeq_f rfl (by first | omega | exact (hg.2 _ _ _).1 | exact (hg.1 _).1 | (simp only [Int.toNat_natCast, upF_2] at *; omega)) (by first | omega | exact (hg.2 _ _ _).2 | exact (hg.1 _).2 | (simp only [Int.toNat_natCast, upF_2] at *; omega)) (by first | omega | (simp only [Int.toNat_natCast, upF_2] at *; omega)) ?_
    refine w_iinc rfl rfl (by decide) ?_
    refine w_goto rfl ?_
    exact ih (k + 1) (by omega) (fun j h1 h2 => hj j (by omega) h2)
theorem r_make_3 (hb : b < m0) (hg : Rg ρ) (d : Nat) (hd : 1 ≤ d) {p c f : Int} (p1 : -2147483648 ≤ p) (p2 : p ≤ 2147483647) (c1 : -2147483648 ≤ c) (c2 : c ≤ 2147483647) (f1 : f = 0 ∨ f = 1) (hp : 0 ≤ p ∧ p < 256 ∧ ρ.2 1 0 p.toNat = 2) (q1 : 1 ≤ c) (q2 : c ≤ 30000) (q3 : rNamed ρ p c < 0) (q4 : ∀ j : Nat, 1 ≤ j → j < 256 → ρ.2 1 0 j ≠ 0) : Wp b L xs d mi_114 0 (ent (mL mi_114) [.ref m0, vI p, vI c, vI f]) [] (RH m0 h ρ) (Rt (RH m0 h (upF ρ 0 3)) (vI 0)) := by
  have hg0 : Rg (upF ρ 0 0) := hg.upF 0 (by decide) (by decide)
  have n1 : rNamed (upF ρ 0 0) p c = rNamed ρ p c := rfl
  have n2 := rNamed_lo ρ p c
  refine w_aload_n rfl rfl ?_
  refine w_aload_n rfl rfl ?_
  refine w_iload_n rfl rfl ?_
  refine w_iconst rfl ?_
  refine w_cvV rfl (by decide) (by first | omega | (simp only [Int.toNat_natCast, upF_2] at *; omega)) rfl RH_obj mt_115 (Nat.le_of_ble_eq_true rfl) (Nat.le_of_ble_eq_true rfl) (r_is1 hb (by assumption) _ hp (by decide) (by decide)) ?_
  refine w_ifeq_f rfl (by first | omega | exact (hg.2 _ _ _).1 | exact (hg.1 _).1 | (simp only [Int.toNat_natCast, upF_2] at *; omega)) (by first | omega | exact (hg.2 _ _ _).2 | exact (hg.1 _).2 | (simp only [Int.toNat_natCast, upF_2] at *; omega)) (by first | omega | (simp only [Int.toNat_natCast, upF_2] at *; omega)) ?_
  refine w_iload_n rfl rfl ?_
  refine w_iconst rfl ?_
  refine w_iclt_f rfl (by first | omega | exact (hg.2 _ _ _).1 | exact (hg.1 _).1 | (simp only [Int.toNat_natCast, upF_2] at *; omega)) (by first | omega | exact (hg.2 _ _ _).2 | exact (hg.1 _).2 | (simp only [Int.toNat_natCast, upF_2] at *; omega)) (by first | omega | exact (hg.2 _ _ _).1 | exact (hg.1 _).1 | (simp only [Int.toNat_natCast, upF_2] at *; omega)) (by first | omega | exact (hg.2 _ _ _).2 | exact (hg.1 _).2 | (simp only [Int.toNat_natCast, upF_2] at *; omega)) (by first | omega | (simp only [Int.toNat_natCast, upF_2] at *; omega)) ?_
  refine w_iload_n rfl rfl ?_
  refine w_sipush rfl rfl ?_
  refine w_icle_t rfl (by first | omega | exact (hg.2 _ _ _).1 | exact (hg.1 _).1 | (simp only [Int.toNat_natCast, upF_2] at *; omega)) (by first | omega | exact (hg.2 _ _ _).2 | exact (hg.1 _).2 | (simp only [Int.toNat_natCast, upF_2] at *; omega)) (by first | omega | exact (hg.2 _ _ _).1 | exact (hg.1 _).1 | (simp only [Int.toNat_natCast, upF_2] at *; omega)) (by first | omega | exact (hg.2 _ _ _).2 | exact (hg.1 _).2 | (simp only [Int.toNat_natCast, upF_2] at *; omega)) (by first | omega | (simp only [Int.toNat_natCast, upF_2] at *; omega)) ?_
  refine w_iconst rfl ?_
  refine w_iconst rfl ?_
  refine w_cvV rfl (by decide) (by first | omega | (simp only [Int.toNat_natCast, upF_2] at *; omega)) rfl RH_obj mt_112 (Nat.le_of_ble_eq_true rfl) (Nat.le_of_ble_eq_true rfl) (r_fails0 hb (by assumption) _) ?_
  refine w_ifeq_t rfl (by first | omega | exact (hg.2 _ _ _).1 | exact (hg.1 _).1 | (simp only [Int.toNat_natCast, upF_2] at *; omega)) (by first | omega | exact (hg.2 _ _ _).2 | exact (hg.1 _).2 | (simp only [Int.toNat_natCast, upF_2] at *; omega)) (by first | omega | (simp only [Int.toNat_natCast, upF_2] at *; omega)) ?_
  refine w_aload_n rfl rfl ?_
  refine w_aload_n rfl rfl ?_
  refine w_iload_n rfl rfl ?_
  refine w_iload_n rfl rfl ?_
  refine w_cvV rfl (by decide) (by first | omega | (simp only [Int.toNat_natCast, upF_2] at *; omega)) rfl RH_obj mt_116 (Nat.le_of_ble_eq_true rfl) (Nat.le_of_ble_eq_true rfl) (r_named hb (by assumption) _ (by first | omega | exact (hg.2 _ _ _).1 | exact (hg.1 _).1 | (simp only [Int.toNat_natCast, upF_2] at *; omega)) (by first | omega | exact (hg.2 _ _ _).2 | exact (hg.1 _).2 | (simp only [Int.toNat_natCast, upF_2] at *; omega)) (by first | omega | exact (hg.2 _ _ _).1 | exact (hg.1 _).1 | (simp only [Int.toNat_natCast, upF_2] at *; omega)) (by first | omega | exact (hg.2 _ _ _).2 | exact (hg.1 _).2 | (simp only [Int.toNat_natCast, upF_2] at *; omega))) ?_
  refine w_iflt_t rfl (by first | omega | exact (hg.2 _ _ _).1 | exact (hg.1 _).1 | (simp only [Int.toNat_natCast, upF_2] at *; omega)) (by first | omega | exact (hg.2 _ _ _).2 | exact (hg.1 _).2 | (simp only [Int.toNat_natCast, upF_2] at *; omega)) (by first | omega | (simp only [Int.toNat_natCast, upF_2] at *; omega)) ?_
  refine w_iconst rfl ?_
  refine w_iconst rfl ?_
  refine w_cvV rfl (by decide) (by first | omega | (simp only [Int.toNat_natCast, upF_2] at *; omega)) rfl RH_obj mt_112 (Nat.le_of_ble_eq_true rfl) (Nat.le_of_ble_eq_true rfl) (r_fails0 hb (by assumption) _) ?_
  rw [upF_upF]
  refine w_ifeq_t rfl (by first | omega | exact (hg.2 _ _ _).1 | exact (hg.1 _).1 | (simp only [Int.toNat_natCast, upF_2] at *; omega)) (by first | omega | exact (hg.2 _ _ _).2 | exact (hg.1 _).2 | (simp only [Int.toNat_natCast, upF_2] at *; omega)) (by first | omega | (simp only [Int.toNat_natCast, upF_2] at *; omega)) ?_
  refine w_iconst rfl ?_
  refine w_istore rfl (by decide) ?_
  refine r_make_l (ρ := upF ρ 0 0) hb hg0 d (Nat.le_refl 256) (Or.inl rfl) ?_ 255 1 rfl q4
  refine w_aload_n rfl rfl ?_
  refine w_iload rfl rfl ?_
  refine w_sipush rfl rfl ?_
  refine w_icne_f rfl (by first | omega | exact (hg.2 _ _ _).1 | exact (hg.1 _).1 | (simp only [Int.toNat_natCast, upF_2] at *; omega)) (by first | omega | exact (hg.2 _ _ _).2 | exact (hg.1 _).2 | (simp only [Int.toNat_natCast, upF_2] at *; omega)) (by first | omega | exact (hg.2 _ _ _).1 | exact (hg.1 _).1 | (simp only [Int.toNat_natCast, upF_2] at *; omega)) (by first | omega | exact (hg.2 _ _ _).2 | exact (hg.1 _).2 | (simp only [Int.toNat_natCast, upF_2] at *; omega)) (by first | omega | (simp only [Int.toNat_natCast, upF_2] at *; omega)) ?_
  refine w_iconst rfl ?_
  refine w_goto rfl ?_
  refine w_iconst rfl ?_
  refine w_cvV rfl (by decide) (by first | omega | (simp only [Int.toNat_natCast, upF_2] at *; omega)) rfl RH_obj mt_112 (Nat.le_of_ble_eq_true rfl) (Nat.le_of_ble_eq_true rfl) (r_fails1 hb (by assumption) _) ?_
  rw [upF_upF]
  refine w_ifeq_f rfl (by first | omega | exact (hg.2 _ _ _).1 | exact (hg.1 _).1 | (simp only [Int.toNat_natCast, upF_2] at *; omega)) (by first | omega | exact (hg.2 _ _ _).2 | exact (hg.1 _).2 | (simp only [Int.toNat_natCast, upF_2] at *; omega)) (by first | omega | (simp only [Int.toNat_natCast, upF_2] at *; omega)) ?_
  refine w_iconst rfl ?_
  refine w_ireturn rfl rfl ?_
  exact ⟨rfl, rfl⟩
def rMake (ρ : RS) (p c f : Int) (n : Nat) : RS := upA (upA (upA (upA (upA (upA (upF (upF ρ 0 0) 7 (ρ.1 7 + 1)) 1 0 n (if f = 0 then 1 else 2)) 2 0 n p) 3 0 n c) 4 0 n 0) 5 0 n (ρ.1 7 + 1)) 5 0 p.toNat (ρ.1 7 + 1)
theorem r_make (hb : b < m0) (hg : Rg ρ) (d : Nat) (hd : 1 ≤ d) {p c f : Int} (p1 : -2147483648 ≤ p) (p2 : p ≤ 2147483647) (c1 : -2147483648 ≤ c) (c2 : c ≤ 2147483647) (f1 : f = 0 ∨ f = 1) (hp : 0 ≤ p ∧ p < 256 ∧ ρ.2 1 0 p.toNat = 2) (q1 : 1 ≤ c) (q2 : c ≤ 30000) (q3 : rNamed ρ p c < 0) {n : Nat} (g1 : 1 ≤ n) (g2 : n < 256) (g3 : ρ.2 1 0 n = 0) (q4 : ∀ j : Nat, 1 ≤ j → j < n → ρ.2 1 0 j ≠ 0) : Wp b L xs d mi_114 0 (ent (mL mi_114) [.ref m0, vI p, vI c, vI f]) [] (RH m0 h ρ) (Rt (RH m0 h (rMake ρ p c f n)) (vI n)) := by
  have hg0 : Rg (upF ρ 0 0) := hg.upF 0 (by decide) (by decide)
  have n1 : rNamed (upF ρ 0 0) p c = rNamed ρ p c := rfl
  have n2 := rNamed_lo ρ p c
  refine w_aload_n rfl rfl ?_
  refine w_aload_n rfl rfl ?_
  refine w_iload_n rfl rfl ?_
  refine w_iconst rfl ?_
  refine w_cvV rfl (by decide) (by first | omega | (simp only [Int.toNat_natCast, upF_2] at *; omega)) rfl RH_obj mt_115 (Nat.le_of_ble_eq_true rfl) (Nat.le_of_ble_eq_true rfl) (r_is1 hb (by assumption) _ hp (by decide) (by decide)) ?_
  refine w_ifeq_f rfl (by first | omega | exact (hg.2 _ _ _).1 | exact (hg.1 _).1 | (simp only [Int.toNat_natCast, upF_2] at *; omega)) (by first | omega | exact (hg.2 _ _ _).2 | exact (hg.1 _).2 | (simp only [Int.toNat_natCast, upF_2] at *; omega)) (by first | omega | (simp only [Int.toNat_natCast, upF_2] at *; omega)) ?_
  refine w_iload_n rfl rfl ?_
  refine w_iconst rfl ?_
  refine w_iclt_f rfl (by first | omega | exact (hg.2 _ _ _).1 | exact (hg.1 _).1 | (simp only [Int.toNat_natCast, upF_2] at *; omega)) (by first | omega | exact (hg.2 _ _ _).2 | exact (hg.1 _).2 | (simp only [Int.toNat_natCast, upF_2] at *; omega)) (by first | omega | exact (hg.2 _ _ _).1 | exact (hg.1 _).1 | (simp only [Int.toNat_natCast, upF_2] at *; omega)) (by first | omega | exact (hg.2 _ _ _).2 | exact (hg.1 _).2 | (simp only [Int.toNat_natCast, upF_2] at *; omega)) (by first | omega | (simp only [Int.toNat_natCast, upF_2] at *; omega)) ?_
  refine w_iload_n rfl rfl ?_
  refine w_sipush rfl rfl ?_
  refine w_icle_t rfl (by first | omega | exact (hg.2 _ _ _).1 | exact (hg.1 _).1 | (simp only [Int.toNat_natCast, upF_2] at *; omega)) (by first | omega | exact (hg.2 _ _ _).2 | exact (hg.1 _).2 | (simp only [Int.toNat_natCast, upF_2] at *; omega)) (by first | omega | exact (hg.2 _ _ _).1 | exact (hg.1 _).1 | (simp only [Int.toNat_natCast, upF_2] at *; omega)) (by first | omega | exact (hg.2 _ _ _).2 | exact (hg.1 _).2 | (simp only [Int.toNat_natCast, upF_2] at *; omega)) (by first | omega | (simp only [Int.toNat_natCast, upF_2] at *; omega)) ?_
  refine w_iconst rfl ?_
  refine w_iconst rfl ?_
  refine w_cvV rfl (by decide) (by first | omega | (simp only [Int.toNat_natCast, upF_2] at *; omega)) rfl RH_obj mt_112 (Nat.le_of_ble_eq_true rfl) (Nat.le_of_ble_eq_true rfl) (r_fails0 hb (by assumption) _) ?_
  refine w_ifeq_t rfl (by first | omega | exact (hg.2 _ _ _).1 | exact (hg.1 _).1 | (simp only [Int.toNat_natCast, upF_2] at *; omega)) (by first | omega | exact (hg.2 _ _ _).2 | exact (hg.1 _).2 | (simp only [Int.toNat_natCast, upF_2] at *; omega)) (by first | omega | (simp only [Int.toNat_natCast, upF_2] at *; omega)) ?_
  refine w_aload_n rfl rfl ?_
  refine w_aload_n rfl rfl ?_
  refine w_iload_n rfl rfl ?_
  refine w_iload_n rfl rfl ?_
  refine w_cvV rfl (by decide) (by first | omega | (simp only [Int.toNat_natCast, upF_2] at *; omega)) rfl RH_obj mt_116 (Nat.le_of_ble_eq_true rfl) (Nat.le_of_ble_eq_true rfl) (r_named hb (by assumption) _ (by first | omega | exact (hg.2 _ _ _).1 | exact (hg.1 _).1 | (simp only [Int.toNat_natCast, upF_2] at *; omega)) (by first | omega | exact (hg.2 _ _ _).2 | exact (hg.1 _).2 | (simp only [Int.toNat_natCast, upF_2] at *; omega)) (by first | omega | exact (hg.2 _ _ _).1 | exact (hg.1 _).1 | (simp only [Int.toNat_natCast, upF_2] at *; omega)) (by first | omega | exact (hg.2 _ _ _).2 | exact (hg.1 _).2 | (simp only [Int.toNat_natCast, upF_2] at *; omega))) ?_
  refine w_iflt_t rfl (by first | omega | exact (hg.2 _ _ _).1 | exact (hg.1 _).1 | (simp only [Int.toNat_natCast, upF_2] at *; omega)) (by first | omega | exact (hg.2 _ _ _).2 | exact (hg.1 _).2 | (simp only [Int.toNat_natCast, upF_2] at *; omega)) (by first | omega | (simp only [Int.toNat_natCast, upF_2] at *; omega)) ?_
  refine w_iconst rfl ?_
  refine w_iconst rfl ?_
  refine w_cvV rfl (by decide) (by first | omega | (simp only [Int.toNat_natCast, upF_2] at *; omega)) rfl RH_obj mt_112 (Nat.le_of_ble_eq_true rfl) (Nat.le_of_ble_eq_true rfl) (r_fails0 hb (by assumption) _) ?_
  rw [upF_upF]
  refine w_ifeq_t rfl (by first | omega | exact (hg.2 _ _ _).1 | exact (hg.1 _).1 | (simp only [Int.toNat_natCast, upF_2] at *; omega)) (by first | omega | exact (hg.2 _ _ _).2 | exact (hg.1 _).2 | (simp only [Int.toNat_natCast, upF_2] at *; omega)) (by first | omega | (simp only [Int.toNat_natCast, upF_2] at *; omega)) ?_
  refine w_iconst rfl ?_
  refine w_istore rfl (by decide) ?_
  refine r_make_l (ρ := upF ρ 0 0) hb hg0 d (by omega) (Or.inr g3) ?_ (n - 1) 1 (by omega) q4
  refine w_aload_n rfl rfl ?_
  refine w_iload rfl rfl ?_
  refine w_sipush rfl rfl ?_
  refine w_icne_t rfl (by first | omega | exact (hg.2 _ _ _).1 | exact (hg.1 _).1 | (simp only [Int.toNat_natCast, upF_2] at *; omega)) (by first | omega | exact (hg.2 _ _ _).2 | exact (hg.1 _).2 | (simp only [Int.toNat_natCast, upF_2] at *; omega)) (by first | omega | exact (hg.2 _ _ _).1 | exact (hg.1 _).1 | (simp only [Int.toNat_natCast, upF_2] at *; omega)) (by first | omega | exact (hg.2 _ _ _).2 | exact (hg.1 _).2 | (simp only [Int.toNat_natCast, upF_2] at *; omega)) (by first | omega | (simp only [Int.toNat_natCast, upF_2] at *; omega)) ?_
  refine w_iconst rfl ?_
  refine w_iconst rfl ?_
  refine w_cvV rfl (by decide) (by first | omega | (simp only [Int.toNat_natCast, upF_2] at *; omega)) rfl RH_obj mt_112 (Nat.le_of_ble_eq_true rfl) (Nat.le_of_ble_eq_true rfl) (r_fails0 hb (by assumption) _) ?_
  rw [upF_upF]
  refine w_ifeq_t rfl (by first | omega | exact (hg.2 _ _ _).1 | exact (hg.1 _).1 | (simp only [Int.toNat_natCast, upF_2] at *; omega)) (by first | omega | exact (hg.2 _ _ _).2 | exact (hg.1 _).2 | (simp only [Int.toNat_natCast, upF_2] at *; omega)) (by first | omega | (simp only [Int.toNat_natCast, upF_2] at *; omega)) ?_
  refine w_aload_n rfl rfl ?_
  refine w_dupR rfl ?_
  refine m_get rfl rfl ?_
  refine w_iconst rfl ?_
  refine w_iadd rfl ?_
  refine m_put rfl rfl rfl rfl ?_
  refine w_aload_n rfl rfl ?_
  refine m_get rfl rfl ?_
  refine w_iload rfl rfl ?_
  refine w_iload_n rfl rfl ?_
  refine w_ifeq rfl (by first | omega | exact (hg.2 _ _ _).1 | exact (hg.1 _).1 | (simp only [Int.toNat_natCast, upF_2] at *; omega)) (by first | omega | exact (hg.2 _ _ _).2 | exact (hg.1 _).2 | (simp only [Int.toNat_natCast, upF_2] at *; omega)) (fun c5 => ?_) (fun c5 => ?_)
  · rw [show rMake ρ p c f n = _ from by unfold rMake; rw [if_pos c5]]
    refine w_iconst rfl ?_
    refine m_iastore rfl rl_1 (by first | omega | (simp only [Int.toNat_natCast, upF_2] at *; omega)) (by first | omega | (simp only [Int.toNat_natCast, upF_2] at *; omega)) ?_
    refine w_aload_n rfl rfl ?_
    refine m_get rfl rfl ?_
    refine w_iload rfl rfl ?_
    refine w_iload_n rfl rfl ?_
    refine m_iastore rfl rl_2 (by first | omega | (simp only [Int.toNat_natCast, upF_2] at *; omega)) (by first | omega | (simp only [Int.toNat_natCast, upF_2] at *; omega)) ?_
    refine w_aload_n rfl rfl ?_
    refine m_get rfl rfl ?_
    refine w_iload rfl rfl ?_
    refine w_iload_n rfl rfl ?_
    refine m_iastore rfl rl_3 (by first | omega | (simp only [Int.toNat_natCast, upF_2] at *; omega)) (by first | omega | (simp only [Int.toNat_natCast, upF_2] at *; omega)) ?_
    refine w_aload_n rfl rfl ?_
    refine m_get rfl rfl ?_
    refine w_iload rfl rfl ?_
    refine w_iconst rfl ?_
    refine m_iastore rfl rl_4 (by first | omega | (simp only [Int.toNat_natCast, upF_2] at *; omega)) (by first | omega | (simp only [Int.toNat_natCast, upF_2] at *; omega)) ?_
    refine w_aload_n rfl rfl ?_
    refine m_get rfl rfl ?_
    refine w_iload rfl rfl ?_
    refine w_aload_n rfl rfl ?_
    refine m_get rfl rfl ?_
    refine m_iastore rfl rl_5 (by first | omega | (simp only [Int.toNat_natCast, upF_2] at *; omega)) (by first | omega | (simp only [Int.toNat_natCast, upF_2] at *; omega)) ?_
    refine w_aload_n rfl rfl ?_
    refine m_get rfl rfl ?_
    refine w_iload_n rfl rfl ?_
    refine w_aload_n rfl rfl ?_
    refine m_get rfl rfl ?_
    refine m_iastore rfl rl_5 (by first | omega | (simp only [Int.toNat_natCast, upF_2] at *; omega)) (by first | omega | (simp only [Int.toNat_natCast, upF_2] at *; omega)) ?_
    refine w_iload rfl rfl ?_
    refine w_ireturn rfl rfl ?_
    exact ⟨rfl, rfl⟩
  · rw [show rMake ρ p c f n = _ from by unfold rMake; rw [if_neg c5]]
    refine w_iconst rfl ?_
    refine w_goto rfl ?_
    refine m_iastore rfl rl_1 (by first | omega | (simp only [Int.toNat_natCast, upF_2] at *; omega)) (by first | omega | (simp only [Int.toNat_natCast, upF_2] at *; omega)) ?_
    refine w_aload_n rfl rfl ?_
    refine m_get rfl rfl ?_
    refine w_iload rfl rfl ?_
    refine w_iload_n rfl rfl ?_
    refine m_iastore rfl rl_2 (by first | omega | (simp only [Int.toNat_natCast, upF_2] at *; omega)) (by first | omega | (simp only [Int.toNat_natCast, upF_2] at *; omega)) ?_
    refine w_aload_n rfl rfl ?_
    refine m_get rfl rfl ?_
    refine w_iload rfl rfl ?_
    refine w_iload_n rfl rfl ?_
    refine m_iastore rfl rl_3 (by first | omega | (simp only [Int.toNat_natCast, upF_2] at *; omega)) (by first | omega | (simp only [Int.toNat_natCast, upF_2] at *; omega)) ?_
    refine w_aload_n rfl rfl ?_
    refine m_get rfl rfl ?_
    refine w_iload rfl rfl ?_
    refine w_iconst rfl ?_
    refine m_iastore rfl rl_4 (by first | omega | (simp only [Int.toNat_natCast, upF_2] at *; omega)) (by first | omega | (simp only [Int.toNat_natCast, upF_2] at *; omega)) ?_
    refine w_aload_n rfl rfl ?_
    refine m_get rfl rfl ?_
    refine w_iload rfl rfl ?_
    refine w_aload_n rfl rfl ?_
    refine m_get rfl rfl ?_
    refine m_iastore rfl rl_5 (by first | omega | (simp only [Int.toNat_natCast, upF_2] at *; omega)) (by first | omega | (simp only [Int.toNat_natCast, upF_2] at *; omega)) ?_
    refine w_aload_n rfl rfl ?_
    refine m_get rfl rfl ?_
    refine w_iload_n rfl rfl ?_
    refine w_aload_n rfl rfl ?_
    refine m_get rfl rfl ?_
    refine m_iastore rfl rl_5 (by first | omega | (simp only [Int.toNat_natCast, upF_2] at *; omega)) (by first | omega | (simp only [Int.toNat_natCast, upF_2] at *; omega)) ?_
    refine w_iload rfl rfl ?_
    refine w_ireturn rfl rfl ?_
    exact ⟨rfl, rfl⟩
end Rr3
end
section
/-! the reference's write, cut, move, remove, spoil -/
section Rr4
variable {b L : Nat} {xs : Nat → Int32} {m0 : Nat} {h : AH} {ρ : RS}
theorem r_write_1 (hb : b < m0) (hg : Rg ρ) (d : Nat) (hd : 1 ≤ d) {n c : Int} {v : Int64} (n1 : -2147483648 ≤ n) (n2 : n ≤ 2147483647) (c1 : -2147483648 ≤ c) (c2 : c ≤ 2147483647) (hp : ¬ (0 ≤ n ∧ n < 256 ∧ ρ.2 1 0 n.toNat = 1)) : Wp b L xs d mi_117 0 (ent (mL mi_117) [.ref m0, vI n, vI c, .long v]) [] (RH m0 h ρ) (Rt (RH m0 h (upF ρ 0 1)) (vI 0)) := by
  refine w_aload_n rfl rfl ?_
  refine w_aload_n rfl rfl ?_
  refine w_iload_n rfl rfl ?_
  refine w_iconst rfl ?_
  refine w_cvV rfl (by decide) (by first | omega | (simp only [Int.toNat_natCast, upF_2] at *; omega)) rfl RH_obj mt_115 (Nat.le_of_ble_eq_true rfl) (Nat.le_of_ble_eq_true rfl) (r_is0 hb (by assumption) _ hp (by first | omega | exact (hg.2 _ _ _).1 | exact (hg.1 _).1 | (simp only [Int.toNat_natCast, upF_2] at *; omega)) (by first | omega | exact (hg.2 _ _ _).2 | exact (hg.1 _).2 | (simp only [Int.toNat_natCast, upF_2] at *; omega)) (by decide) (by decide)) ?_
  refine w_ifne_f rfl (by first | omega | exact (hg.2 _ _ _).1 | exact (hg.1 _).1 | (simp only [Int.toNat_natCast, upF_2] at *; omega)) (by first | omega | exact (hg.2 _ _ _).2 | exact (hg.1 _).2 | (simp only [Int.toNat_natCast, upF_2] at *; omega)) (by first | omega | (simp only [Int.toNat_natCast, upF_2] at *; omega)) ?_
  refine w_iconst rfl ?_
  refine w_goto rfl ?_
  refine w_iconst rfl ?_
  refine w_cvV rfl (by decide) (by first | omega | (simp only [Int.toNat_natCast, upF_2] at *; omega)) rfl RH_obj mt_112 (Nat.le_of_ble_eq_true rfl) (Nat.le_of_ble_eq_true rfl) (r_fails1 hb (by assumption) _) ?_
  refine w_ifeq_f rfl (by first | omega | exact (hg.2 _ _ _).1 | exact (hg.1 _).1 | (simp only [Int.toNat_natCast, upF_2] at *; omega)) (by first | omega | exact (hg.2 _ _ _).2 | exact (hg.1 _).2 | (simp only [Int.toNat_natCast, upF_2] at *; omega)) (by first | omega | (simp only [Int.toNat_natCast, upF_2] at *; omega)) ?_
  refine w_iconst rfl ?_
  refine w_ireturn rfl rfl ?_
  exact ⟨rfl, rfl⟩
theorem r_write_2 (hb : b < m0) (hg : Rg ρ) (d : Nat) (hd : 1 ≤ d) {n c : Int} {v : Int64} (n1 : -2147483648 ≤ n) (n2 : n ≤ 2147483647) (c1 : -2147483648 ≤ c) (c2 : c ≤ 2147483647) (hp : 0 ≤ n ∧ n < 256 ∧ ρ.2 1 0 n.toNat = 1) (hc : c < 0 ∨ ρ.2 4 0 n.toNat < c ∨ 504 < c) : Wp b L xs d mi_117 0 (ent (mL mi_117) [.ref m0, vI n, vI c, .long v]) [] (RH m0 h ρ) (Rt (RH m0 h (upF ρ 0 2)) (vI 0)) := by
  have hg0 : Rg (upF ρ 0 0) := hg.upF 0 (by decide) (by decide)
  by_cases q1 : c < 0
  · refine w_aload_n rfl rfl ?_
    refine w_aload_n rfl rfl ?_
    refine w_iload_n rfl rfl ?_
    refine w_iconst rfl ?_
    refine w_cvV rfl (by decide) (by first | omega | (simp only [Int.toNat_natCast, upF_2] at *; omega)) rfl RH_obj mt_115 (Nat.le_of_ble_eq_true rfl) (Nat.le_of_ble_eq_true rfl) (r_is1 hb (by assumption) _ hp (by decide) (by decide)) ?_
    refine w_ifne_t rfl (by first | omega | exact (hg.2 _ _ _).1 | exact (hg.1 _).1 | (simp only [Int.toNat_natCast, upF_2] at *; omega)) (by first | omega | exact (hg.2 _ _ _).2 | exact (hg.1 _).2 | (simp only [Int.toNat_natCast, upF_2] at *; omega)) (by first | omega | (simp only [Int.toNat_natCast, upF_2] at *; omega)) ?_
    refine w_iconst rfl ?_
    refine w_iconst rfl ?_
    refine w_cvV rfl (by decide) (by first | omega | (simp only [Int.toNat_natCast, upF_2] at *; omega)) rfl RH_obj mt_112 (Nat.le_of_ble_eq_true rfl) (Nat.le_of_ble_eq_true rfl) (r_fails0 hb (by assumption) _) ?_
    refine w_ifeq_t rfl (by first | omega | exact (hg.2 _ _ _).1 | exact (hg.1 _).1 | (simp only [Int.toNat_natCast, upF_2] at *; omega)) (by first | omega | exact (hg.2 _ _ _).2 | exact (hg.1 _).2 | (simp only [Int.toNat_natCast, upF_2] at *; omega)) (by first | omega | (simp only [Int.toNat_natCast, upF_2] at *; omega)) ?_
    refine w_aload_n rfl rfl ?_
    refine w_iload_n rfl rfl ?_
    refine w_iflt_t rfl (by first | omega | exact (hg.2 _ _ _).1 | exact (hg.1 _).1 | (simp only [Int.toNat_natCast, upF_2] at *; omega)) (by first | omega | exact (hg.2 _ _ _).2 | exact (hg.1 _).2 | (simp only [Int.toNat_natCast, upF_2] at *; omega)) (by first | omega | (simp only [Int.toNat_natCast, upF_2] at *; omega)) ?_
    refine w_iconst rfl ?_
    refine w_goto rfl ?_
    refine w_iconst rfl ?_
    refine w_cvV rfl (by decide) (by first | omega | (simp only [Int.toNat_natCast, upF_2] at *; omega)) rfl RH_obj mt_112 (Nat.le_of_ble_eq_true rfl) (Nat.le_of_ble_eq_true rfl) (r_fails1 hb (by assumption) _) ?_
    rw [upF_upF]
    refine w_ifeq_f rfl (by first | omega | exact (hg.2 _ _ _).1 | exact (hg.1 _).1 | (simp only [Int.toNat_natCast, upF_2] at *; omega)) (by first | omega | exact (hg.2 _ _ _).2 | exact (hg.1 _).2 | (simp only [Int.toNat_natCast, upF_2] at *; omega)) (by first | omega | (simp only [Int.toNat_natCast, upF_2] at *; omega)) ?_
    refine w_iconst rfl ?_
    refine w_ireturn rfl rfl ?_
    exact ⟨rfl, rfl⟩
  by_cases q2 : ρ.2 4 0 n.toNat < c
  · refine w_aload_n rfl rfl ?_
    refine w_aload_n rfl rfl ?_
    refine w_iload_n rfl rfl ?_
    refine w_iconst rfl ?_
    refine w_cvV rfl (by decide) (by first | omega | (simp only [Int.toNat_natCast, upF_2] at *; omega)) rfl RH_obj mt_115 (Nat.le_of_ble_eq_true rfl) (Nat.le_of_ble_eq_true rfl) (r_is1 hb (by assumption) _ hp (by decide) (by decide)) ?_
    refine w_ifne_t rfl (by first | omega | exact (hg.2 _ _ _).1 | exact (hg.1 _).1 | (simp only [Int.toNat_natCast, upF_2] at *; omega)) (by first | omega | exact (hg.2 _ _ _).2 | exact (hg.1 _).2 | (simp only [Int.toNat_natCast, upF_2] at *; omega)) (by first | omega | (simp only [Int.toNat_natCast, upF_2] at *; omega)) ?_
    refine w_iconst rfl ?_
    refine w_iconst rfl ?_
    refine w_cvV rfl (by decide) (by first | omega | (simp only [Int.toNat_natCast, upF_2] at *; omega)) rfl RH_obj mt_112 (Nat.le_of_ble_eq_true rfl) (Nat.le_of_ble_eq_true rfl) (r_fails0 hb (by assumption) _) ?_
    refine w_ifeq_t rfl (by first | omega | exact (hg.2 _ _ _).1 | exact (hg.1 _).1 | (simp only [Int.toNat_natCast, upF_2] at *; omega)) (by first | omega | exact (hg.2 _ _ _).2 | exact (hg.1 _).2 | (simp only [Int.toNat_natCast, upF_2] at *; omega)) (by first | omega | (simp only [Int.toNat_natCast, upF_2] at *; omega)) ?_
    refine w_aload_n rfl rfl ?_
    refine w_iload_n rfl rfl ?_
    refine w_iflt_f rfl (by first | omega | exact (hg.2 _ _ _).1 | exact (hg.1 _).1 | (simp only [Int.toNat_natCast, upF_2] at *; omega)) (by first | omega | exact (hg.2 _ _ _).2 | exact (hg.1 _).2 | (simp only [Int.toNat_natCast, upF_2] at *; omega)) (by first | omega | (simp only [Int.toNat_natCast, upF_2] at *; omega)) ?_
    refine w_iload_n rfl rfl ?_
    refine w_aload_n rfl rfl ?_
    refine m_get rfl rfl ?_
    refine w_iload_n rfl rfl ?_
    refine m_iaload rfl hb rl_4 (by first | omega | (simp only [Int.toNat_natCast, upF_2] at *; omega)) (by first | omega | (simp only [Int.toNat_natCast, upF_2] at *; omega)) ?_
    refine w_icgt_t rfl (by first | omega | exact (hg.2 _ _ _).1 | exact (hg.1 _).1 | (simp only [Int.toNat_natCast, upF_2] at *; omega)) (by first | omega | exact (hg.2 _ _ _).2 | exact (hg.1 _).2 | (simp only [Int.toNat_natCast, upF_2] at *; omega)) (by first | omega | exact (hg.2 _ _ _).1 | exact (hg.1 _).1 | (simp only [Int.toNat_natCast, upF_2] at *; omega)) (by first | omega | exact (hg.2 _ _ _).2 | exact (hg.1 _).2 | (simp only [Int.toNat_natCast, upF_2] at *; omega)) (by first | omega | (simp only [Int.toNat_natCast, upF_2] at *; omega)) ?_
    refine w_iconst rfl ?_
    refine w_goto rfl ?_
    refine w_iconst rfl ?_
    refine w_cvV rfl (by decide) (by first | omega | (simp only [Int.toNat_natCast, upF_2] at *; omega)) rfl RH_obj mt_112 (Nat.le_of_ble_eq_true rfl) (Nat.le_of_ble_eq_true rfl) (r_fails1 hb (by assumption) _) ?_
    rw [upF_upF]
    refine w_ifeq_f rfl (by first | omega | exact (hg.2 _ _ _).1 | exact (hg.1 _).1 | (simp only [Int.toNat_natCast, upF_2] at *; omega)) (by first | omega | exact (hg.2 _ _ _).2 | exact (hg.1 _).2 | (simp only [Int.toNat_natCast, upF_2] at *; omega)) (by first | omega | (simp only [Int.toNat_natCast, upF_2] at *; omega)) ?_
    refine w_iconst rfl ?_
    refine w_ireturn rfl rfl ?_
    exact ⟨rfl, rfl⟩
  refine w_aload_n rfl rfl ?_
  refine w_aload_n rfl rfl ?_
  refine w_iload_n rfl rfl ?_
  refine w_iconst rfl ?_
  refine w_cvV rfl (by decide) (by first | omega | (simp only [Int.toNat_natCast, upF_2] at *; omega)) rfl RH_obj mt_115 (Nat.le_of_ble_eq_true rfl) (Nat.le_of_ble_eq_true rfl) (r_is1 hb (by assumption) _ hp (by decide) (by decide)) ?_
  refine w_ifne_t rfl (by first | omega | exact (hg.2 _ _ _).1 | exact (hg.1 _).1 | (simp only [Int.toNat_natCast, upF_2] at *; omega)) (by first | omega | exact (hg.2 _ _ _).2 | exact (hg.1 _).2 | (simp only [Int.toNat_natCast, upF_2] at *; omega)) (by first | omega | (simp only [Int.toNat_natCast, upF_2] at *; omega)) ?_
  refine w_iconst rfl ?_
  refine w_iconst rfl ?_
  refine w_cvV rfl (by decide) (by first | omega | (simp only [Int.toNat_natCast, upF_2] at *; omega)) rfl RH_obj mt_112 (Nat.le_of_ble_eq_true rfl) (Nat.le_of_ble_eq_true rfl) (r_fails0 hb (by assumption) _) ?_
  refine w_ifeq_t rfl (by first | omega | exact (hg.2 _ _ _).1 | exact (hg.1 _).1 | (simp only [Int.toNat_natCast, upF_2] at *; omega)) (by first | omega | exact (hg.2 _ _ _).2 | exact (hg.1 _).2 | (simp only [Int.toNat_natCast, upF_2] at *; omega)) (by first | omega | (simp only [Int.toNat_natCast, upF_2] at *; omega)) ?_
  refine w_aload_n rfl rfl ?_
  refine w_iload_n rfl rfl ?_
  refine w_iflt_f rfl (by first | omega | exact (hg.2 _ _ _).1 | exact (hg.1 _).1 | (simp only [Int.toNat_natCast, upF_2] at *; omega)) (by first | omega | exact (hg.2 _ _ _).2 | exact (hg.1 _).2 | (simp only [Int.toNat_natCast, upF_2] at *; omega)) (by first | omega | (simp only [Int.toNat_natCast, upF_2] at *; omega)) ?_
  refine w_iload_n rfl rfl ?_
  refine w_aload_n rfl rfl ?_
  refine m_get rfl rfl ?_
  refine w_iload_n rfl rfl ?_
  refine m_iaload rfl hb rl_4 (by first | omega | (simp only [Int.toNat_natCast, upF_2] at *; omega)) (by first | omega | (simp only [Int.toNat_natCast, upF_2] at *; omega)) ?_
  refine w_icgt_f rfl (by first | omega | exact (hg.2 _ _ _).1 | exact (hg.1 _).1 | (simp only [Int.toNat_natCast, upF_2] at *; omega)) (by first | omega | exact (hg.2 _ _ _).2 | exact (hg.1 _).2 | (simp only [Int.toNat_natCast, upF_2] at *; omega)) (by first | omega | exact (hg.2 _ _ _).1 | exact (hg.1 _).1 | (simp only [Int.toNat_natCast, upF_2] at *; omega)) (by first | omega | exact (hg.2 _ _ _).2 | exact (hg.1 _).2 | (simp only [Int.toNat_natCast, upF_2] at *; omega)) (by first | omega | (simp only [Int.toNat_natCast, upF_2] at *; omega)) ?_
  refine w_iload_n rfl rfl ?_
  refine w_sipush rfl rfl ?_
  refine w_icle_f rfl (by first | omega | exact (hg.2 _ _ _).1 | exact (hg.1 _).1 | (simp only [Int.toNat_natCast, upF_2] at *; omega)) (by first | omega | exact (hg.2 _ _ _).2 | exact (hg.1 _).2 | (simp only [Int.toNat_natCast, upF_2] at *; omega)) (by first | omega | exact (hg.2 _ _ _).1 | exact (hg.1 _).1 | (simp only [Int.toNat_natCast, upF_2] at *; omega)) (by first | omega | exact (hg.2 _ _ _).2 | exact (hg.1 _).2 | (simp only [Int.toNat_natCast, upF_2] at *; omega)) (by first | omega | (simp only [Int.toNat_natCast, upF_2] at *; omega)) ?_
  refine w_iconst rfl ?_
  refine w_goto rfl ?_
  refine w_iconst rfl ?_
  refine w_cvV rfl (by decide) (by first | omega | (simp only [Int.toNat_natCast, upF_2] at *; omega)) rfl RH_obj mt_112 (Nat.le_of_ble_eq_true rfl) (Nat.le_of_ble_eq_true rfl) (r_fails1 hb (by assumption) _) ?_
  rw [upF_upF]
  refine w_ifeq_f rfl (by first | omega | exact (hg.2 _ _ _).1 | exact (hg.1 _).1 | (simp only [Int.toNat_natCast, upF_2] at *; omega)) (by first | omega | exact (hg.2 _ _ _).2 | exact (hg.1 _).2 | (simp only [Int.toNat_natCast, upF_2] at *; omega)) (by first | omega | (simp only [Int.toNat_natCast, upF_2] at *; omega)) ?_
  refine w_iconst rfl ?_
  refine w_ireturn rfl rfl ?_
  exact ⟨rfl, rfl⟩
theorem r_write_l {Q : AH → RO → Prop} (d : Nat) {v : Int64} {n at_ : Nat} (hn : n < 256) (ha : at_ ≤ 504) (kk : Wp b L xs d mi_117 99 [some (.ref m0), some (vI n), some (vI at_), some (.long v), none, some (vI 8)] [] (RH m0 h (wr8 ρ n at_ v 8)) Q) : ∀ m k : Nat, k + m = 8 → Wp b L xs d mi_117 63 [some (.ref m0), some (vI n), some (vI at_), some (.long v), none, some (vI k)] [] (RH m0 h (wr8 ρ n at_ v k)) Q := by
  intro m
  induction m with
  | zero =>
    intro k hk
    obtain rfl : k = 8 := hk
    refine w_iload rfl rfl ?_
    refine w_bipush rfl rfl ?_
    refine w_icge_t rfl (by first | omega | exact (hg.2 _ _ _).1 | exact (hg.1 _).1 | (simp only [Int.toNat_natCast, upF_2] at *; omega)) (by first | omega | exact (hg.2 _ _ _).2 | exact (hg.1 _).2 | (simp only [Int.toNat_natCast, upF_2] at *; omega)) (by first | omega | exact (hg.2 _ _ _).1 | exact (hg.1 _).1 | (simp only [Int.toNat_natCast, upF_2] at *; omega)) (by first | omega | exact (hg.2 _ _ _).2 | exact (hg.1 _).2 | (simp only [Int.toNat_natCast, upF_2] at *; omega)) (by first | omega | (simp only [Int.toNat_natCast, upF_2] at *; omega)) ?_
    exact kk
  | succ m ih =>
    intro k hk
    have e1 : ((at_ : Int) + (k : Int)).toNat = at_ + k := by omega
    have e2 : ∀ x : Int64, sb (x.toInt) % 256 = x.toInt % 256 := fun x => sb_mod _
    have e3 : (v >>> ((Int32.ofInt ((56 : Int) - 8 * (k : Int))).toInt64 &&& 63)).toInt % 256 = lo8 v k := by
      have e4 : (56 : Int) - 8 * (k : Int) = ((56 - 8 * k : Nat) : Int) := by omega
      rw [e4, l_shr v (by omega)]
      rfl
    refine w_iload rfl rfl ?_
    refine w_bipush rfl rfl ?_
    refine w_icge_f rfl (by first | omega | exact (hg.2 _ _ _).1 | exact (hg.1 _).1 | (simp only [Int.toNat_natCast, upF_2] at *; omega)) (by first | omega | exact (hg.2 _ _ _).2 | exact (hg.1 _).2 | (simp only [Int.toNat_natCast, upF_2] at *; omega)) (by first | omega | exact (hg.2 _ _ _).1 | exact (hg.1 _).1 | (simp only [Int.toNat_natCast, upF_2] at *; omega)) (by first | omega | exact (hg.2 _ _ _).2 | exact (hg.1 _).2 | (simp only [Int.toNat_natCast, upF_2] at *; omega)) (by first | omega | (simp only [Int.toNat_natCast, upF_2] at *; omega)) ?_
    refine w_aload_n rfl rfl ?_
    refine m_get rfl rfl ?_
    refine w_iload_n rfl rfl ?_
    refine m_aaload rfl rfl (by first | omega | (simp only [Int.toNat_natCast, upF_2] at *; omega)) (by first | omega | (simp only [Int.toNat_natCast, upF_2] at *; omega)) ?_
    refine w_iload_n rfl rfl ?_
    refine w_iload rfl rfl ?_
    refine w_iadd rfl ?_
    refine w_lload_n rfl rfl ?_
    refine w_bipush rfl rfl ?_
    refine w_bipush rfl rfl ?_
    refine w_iload rfl rfl ?_
    refine w_imul rfl ?_
    refine w_isub rfl ?_
    refine w_lshr rfl ?_
    refine w_l2iJ rfl ?_
    refine w_i2b rfl ?_
    refine m_bastore rfl (rlay_r6 (by first | omega | (simp only [Int.toNat_natCast, upF_2] at *; omega))) (by first | omega | (simp only [Int.toNat_natCast, upF_2] at *; omega)) (by first | omega | (simp only [Int.toNat_natCast, upF_2] at *; omega)) ?_
    rw [e2, e3, e1, Int.toNat_natCast, wr8_succ]
    refine w_iinc rfl rfl (by decide) ?_
    refine w_goto rfl ?_
    exact ih (k + 1) (by omega)
def rWrite (ρ : RS) (n at_ : Nat) (v : Int64) : RS := upA (upF (upA (wr8 (upF ρ 0 0) n at_ v 8) 4 0 n (max (ρ.2 4 0 n) (at_ + 8))) 7 (ρ.1 7 + 1)) 5 0 n (ρ.1 7 + 1)
theorem r_write (hb : b < m0) (hg : Rg ρ) (d : Nat) (hd : 1 ≤ d) {n at_ : Nat} {v : Int64} (hn : n < 256) (hk : ρ.2 1 0 n = 1) (c1 : (at_ : Int) ≤ ρ.2 4 0 n) (c2 : at_ ≤ 504) : Wp b L xs d mi_117 0 (ent (mL mi_117) [.ref m0, vI n, vI at_, .long v]) [] (RH m0 h ρ) (Rt (RH m0 h (rWrite ρ n at_ v)) (vI (max (ρ.2 4 0 n) (at_ + 8)))) := by
  have hp : (0 : Int) ≤ n ∧ (n : Int) < 256 ∧ ρ.2 1 0 (n : Int).toNat = 1 := ⟨by omega, by omega, hk⟩
  have hg0 : Rg (upF ρ 0 0) := hg.upF 0 (by decide) (by decide)
  refine w_aload_n rfl rfl ?_
  refine w_aload_n rfl rfl ?_
  refine w_iload_n rfl rfl ?_
  refine w_iconst rfl ?_
  refine w_cvV rfl (by decide) (by first | omega | (simp only [Int.toNat_natCast, upF_2] at *; omega)) rfl RH_obj mt_115 (Nat.le_of_ble_eq_true rfl) (Nat.le_of_ble_eq_true rfl) (r_is1 hb (by assumption) _ hp (by decide) (by decide)) ?_
  refine w_ifne_t rfl (by first | omega | exact (hg.2 _ _ _).1 | exact (hg.1 _).1 | (simp only [Int.toNat_natCast, upF_2] at *; omega)) (by first | omega | exact (hg.2 _ _ _).2 | exact (hg.1 _).2 | (simp only [Int.toNat_natCast, upF_2] at *; omega)) (by first | omega | (simp only [Int.toNat_natCast, upF_2] at *; omega)) ?_
  refine w_iconst rfl ?_
  refine w_iconst rfl ?_
  refine w_cvV rfl (by decide) (by first | omega | (simp only [Int.toNat_natCast, upF_2] at *; omega)) rfl RH_obj mt_112 (Nat.le_of_ble_eq_true rfl) (Nat.le_of_ble_eq_true rfl) (r_fails0 hb (by assumption) _) ?_
  refine w_ifeq_t rfl (by first | omega | exact (hg.2 _ _ _).1 | exact (hg.1 _).1 | (simp only [Int.toNat_natCast, upF_2] at *; omega)) (by first | omega | exact (hg.2 _ _ _).2 | exact (hg.1 _).2 | (simp only [Int.toNat_natCast, upF_2] at *; omega)) (by first | omega | (simp only [Int.toNat_natCast, upF_2] at *; omega)) ?_
  refine w_aload_n rfl rfl ?_
  refine w_iload_n rfl rfl ?_
  refine w_iflt_f rfl (by first | omega | exact (hg.2 _ _ _).1 | exact (hg.1 _).1 | (simp only [Int.toNat_natCast, upF_2] at *; omega)) (by first | omega | exact (hg.2 _ _ _).2 | exact (hg.1 _).2 | (simp only [Int.toNat_natCast, upF_2] at *; omega)) (by first | omega | (simp only [Int.toNat_natCast, upF_2] at *; omega)) ?_
  refine w_iload_n rfl rfl ?_
  refine w_aload_n rfl rfl ?_
  refine m_get rfl rfl ?_
  refine w_iload_n rfl rfl ?_
  refine m_iaload rfl hb rl_4 (by first | omega | (simp only [Int.toNat_natCast, upF_2] at *; omega)) (by first | omega | (simp only [Int.toNat_natCast, upF_2] at *; omega)) ?_
  refine w_icgt_f rfl (by first | omega | exact (hg.2 _ _ _).1 | exact (hg.1 _).1 | (simp only [Int.toNat_natCast, upF_2] at *; omega)) (by first | omega | exact (hg.2 _ _ _).2 | exact (hg.1 _).2 | (simp only [Int.toNat_natCast, upF_2] at *; omega)) (by first | omega | exact (hg.2 _ _ _).1 | exact (hg.1 _).1 | (simp only [Int.toNat_natCast, upF_2] at *; omega)) (by first | omega | exact (hg.2 _ _ _).2 | exact (hg.1 _).2 | (simp only [Int.toNat_natCast, upF_2] at *; omega)) (by first | omega | (simp only [Int.toNat_natCast, upF_2] at *; omega)) ?_
  refine w_iload_n rfl rfl ?_
  refine w_sipush rfl rfl ?_
  refine w_icle_t rfl (by first | omega | exact (hg.2 _ _ _).1 | exact (hg.1 _).1 | (simp only [Int.toNat_natCast, upF_2] at *; omega)) (by first | omega | exact (hg.2 _ _ _).2 | exact (hg.1 _).2 | (simp only [Int.toNat_natCast, upF_2] at *; omega)) (by first | omega | exact (hg.2 _ _ _).1 | exact (hg.1 _).1 | (simp only [Int.toNat_natCast, upF_2] at *; omega)) (by first | omega | exact (hg.2 _ _ _).2 | exact (hg.1 _).2 | (simp only [Int.toNat_natCast, upF_2] at *; omega)) (by first | omega | (simp only [Int.toNat_natCast, upF_2] at *; omega)) ?_
  refine w_iconst rfl ?_
  refine w_iconst rfl ?_
  refine w_cvV rfl (by decide) (by first | omega | (simp only [Int.toNat_natCast, upF_2] at *; omega)) rfl RH_obj mt_112 (Nat.le_of_ble_eq_true rfl) (Nat.le_of_ble_eq_true rfl) (r_fails0 hb (by assumption) _) ?_
  rw [upF_upF]
  refine w_ifeq_t rfl (by first | omega | exact (hg.2 _ _ _).1 | exact (hg.1 _).1 | (simp only [Int.toNat_natCast, upF_2] at *; omega)) (by first | omega | exact (hg.2 _ _ _).2 | exact (hg.1 _).2 | (simp only [Int.toNat_natCast, upF_2] at *; omega)) (by first | omega | (simp only [Int.toNat_natCast, upF_2] at *; omega)) ?_
  refine w_iconst rfl ?_
  refine w_istore rfl (by decide) ?_
  suffices kk : Wp b L xs d mi_117 99 [some (.ref m0), some (vI n), some (vI at_), some (.long v), none, some (vI 8)] [] (RH m0 h (wr8 (upF ρ 0 0) n at_ v 8)) (Rt (RH m0 h (rWrite ρ n at_ v)) (vI (max (ρ.2 4 0 n) (at_ + 8)))) by
    have k2 := r_write_l d hn c2 kk 8 0 rfl
    rw [wr8_zero] at k2
    exact k2
  have r1 := hg.2 4 0 n
  refine w_aload_n rfl rfl ?_
  refine m_get rfl rfl ?_
  refine w_iload_n rfl rfl ?_
  refine w_aload_n rfl rfl ?_
  refine m_get rfl rfl ?_
  refine w_iload_n rfl rfl ?_
  refine m_iaload rfl hb rl_4 (by first | omega | (simp only [Int.toNat_natCast, upF_2] at *; omega)) (by first | omega | (simp only [Int.toNat_natCast, upF_2] at *; omega)) ?_
  refine w_iload_n rfl rfl ?_
  refine w_bipush rfl rfl ?_
  refine w_iadd rfl ?_
  refine w_max rfl (by omega) (Nat.le_of_ble_eq_true rfl) (by show _ ≤ ρ.2 4 0 n; exact r1.1) (by show ρ.2 4 0 n ≤ _; exact r1.2) (by omega) (by omega) ?_
  refine m_iastore rfl rl_4 (by first | omega | (simp only [Int.toNat_natCast, upF_2] at *; omega)) (by first | omega | (simp only [Int.toNat_natCast, upF_2] at *; omega)) ?_
  refine w_aload_n rfl rfl ?_
  refine m_get rfl rfl ?_
  refine w_iload_n rfl rfl ?_
  refine w_aload_n rfl rfl ?_
  refine w_dupR rfl ?_
  refine m_get rfl rfl ?_
  refine w_iconst rfl ?_
  refine w_iadd rfl ?_
  refine w_dup_x1 rfl ?_
  refine m_put rfl rfl rfl rfl ?_
  refine m_iastore rfl rl_5 (by first | omega | (simp only [Int.toNat_natCast, upF_2] at *; omega)) (by first | omega | (simp only [Int.toNat_natCast, upF_2] at *; omega)) ?_
  refine w_aload_n rfl rfl ?_
  refine m_get rfl rfl ?_
  refine w_iload_n rfl rfl ?_
  refine m_iaload rfl hb rl_4 (by omega) (by omega) ?_
  refine w_ireturn rfl rfl ?_
  refine ⟨rfl, ?_⟩
  congr 4
  show (if 4 = 4 ∧ 0 = 0 ∧ n = n then max (ρ.2 4 0 n) ((at_ : Int) + 8) else _) = _
  rw [if_pos ⟨rfl, rfl, rfl⟩]
theorem r_cut_1 (hb : b < m0) (hg : Rg ρ) (d : Nat) (hd : 1 ≤ d) {n c : Int} (n1 : -2147483648 ≤ n) (n2 : n ≤ 2147483647) (c1 : -2147483648 ≤ c) (c2 : c ≤ 2147483647) (hp : ¬ (0 ≤ n ∧ n < 256 ∧ ρ.2 1 0 n.toNat = 1)) : Wp b L xs d mi_118 0 (ent (mL mi_118) [.ref m0, vI n, vI c]) [] (RH m0 h ρ) (Rn (RH m0 h (upF ρ 0 1))) := by
  refine w_aload_n rfl rfl ?_
  refine w_aload_n rfl rfl ?_
  refine w_iload_n rfl rfl ?_
  refine w_iconst rfl ?_
  refine w_cvV rfl (by decide) (by first | omega | (simp only [Int.toNat_natCast, upF_2] at *; omega)) rfl RH_obj mt_115 (Nat.le_of_ble_eq_true rfl) (Nat.le_of_ble_eq_true rfl) (r_is0 hb (by assumption) _ hp (by first | omega | exact (hg.2 _ _ _).1 | exact (hg.1 _).1 | (simp only [Int.toNat_natCast, upF_2] at *; omega)) (by first | omega | exact (hg.2 _ _ _).2 | exact (hg.1 _).2 | (simp only [Int.toNat_natCast, upF_2] at *; omega)) (by decide) (by decide)) ?_
  refine w_ifne_f rfl (by first | omega | exact (hg.2 _ _ _).1 | exact (hg.1 _).1 | (simp only [Int.toNat_natCast, upF_2] at *; omega)) (by first | omega | exact (hg.2 _ _ _).2 | exact (hg.1 _).2 | (simp only [Int.toNat_natCast, upF_2] at *; omega)) (by first | omega | (simp only [Int.toNat_natCast, upF_2] at *; omega)) ?_
  refine w_iconst rfl ?_
  refine w_goto rfl ?_
  refine w_iconst rfl ?_
  refine w_cvV rfl (by decide) (by first | omega | (simp only [Int.toNat_natCast, upF_2] at *; omega)) rfl RH_obj mt_112 (Nat.le_of_ble_eq_true rfl) (Nat.le_of_ble_eq_true rfl) (r_fails1 hb (by assumption) _) ?_
  refine w_ifeq_f rfl (by first | omega | exact (hg.2 _ _ _).1 | exact (hg.1 _).1 | (simp only [Int.toNat_natCast, upF_2] at *; omega)) (by first | omega | exact (hg.2 _ _ _).2 | exact (hg.1 _).2 | (simp only [Int.toNat_natCast, upF_2] at *; omega)) (by first | omega | (simp only [Int.toNat_natCast, upF_2] at *; omega)) ?_
  refine w_return rfl rfl ?_
  exact ⟨rfl, rfl⟩
theorem r_cut_2 (hb : b < m0) (hg : Rg ρ) (d : Nat) (hd : 1 ≤ d) {n c : Int} (n1 : -2147483648 ≤ n) (n2 : n ≤ 2147483647) (c1 : -2147483648 ≤ c) (c2 : c ≤ 2147483647) (hp : 0 ≤ n ∧ n < 256 ∧ ρ.2 1 0 n.toNat = 1) (hc : c < 0 ∨ ρ.2 4 0 n.toNat < c) : Wp b L xs d mi_118 0 (ent (mL mi_118) [.ref m0, vI n, vI c]) [] (RH m0 h ρ) (Rn (RH m0 h (upF ρ 0 2))) := by
  have hg0 : Rg (upF ρ 0 0) := hg.upF 0 (by decide) (by decide)
  by_cases q1 : c < 0
  · refine w_aload_n rfl rfl ?_
    refine w_aload_n rfl rfl ?_
    refine w_iload_n rfl rfl ?_
    refine w_iconst rfl ?_
    refine w_cvV rfl (by decide) (by first | omega | (simp only [Int.toNat_natCast, upF_2] at *; omega)) rfl RH_obj mt_115 (Nat.le_of_ble_eq_true rfl) (Nat.le_of_ble_eq_true rfl) (r_is1 hb (by assumption) _ hp (by decide) (by decide)) ?_
    refine w_ifne_t rfl (by first | omega | exact (hg.2 _ _ _).1 | exact (hg.1 _).1 | (simp only [Int.toNat_natCast, upF_2] at *; omega)) (by first | omega | exact (hg.2 _ _ _).2 | exact (hg.1 _).2 | (simp only [Int.toNat_natCast, upF_2] at *; omega)) (by first | omega | (simp only [Int.toNat_natCast, upF_2] at *; omega)) ?_
    refine w_iconst rfl ?_
    refine w_iconst rfl ?_
    refine w_cvV rfl (by decide) (by first | omega | (simp only [Int.toNat_natCast, upF_2] at *; omega)) rfl RH_obj mt_112 (Nat.le_of_ble_eq_true rfl) (Nat.le_of_ble_eq_true rfl) (r_fails0 hb (by assumption) _) ?_
    refine w_ifeq_t rfl (by first | omega | exact (hg.2 _ _ _).1 | exact (hg.1 _).1 | (simp only [Int.toNat_natCast, upF_2] at *; omega)) (by first | omega | exact (hg.2 _ _ _).2 | exact (hg.1 _).2 | (simp only [Int.toNat_natCast, upF_2] at *; omega)) (by first | omega | (simp only [Int.toNat_natCast, upF_2] at *; omega)) ?_
    refine w_aload_n rfl rfl ?_
    refine w_iload_n rfl rfl ?_
    refine w_iflt_t rfl (by first | omega | exact (hg.2 _ _ _).1 | exact (hg.1 _).1 | (simp only [Int.toNat_natCast, upF_2] at *; omega)) (by first | omega | exact (hg.2 _ _ _).2 | exact (hg.1 _).2 | (simp only [Int.toNat_natCast, upF_2] at *; omega)) (by first | omega | (simp only [Int.toNat_natCast, upF_2] at *; omega)) ?_
    refine w_iconst rfl ?_
    refine w_goto rfl ?_
    refine w_iconst rfl ?_
    refine w_cvV rfl (by decide) (by first | omega | (simp only [Int.toNat_natCast, upF_2] at *; omega)) rfl RH_obj mt_112 (Nat.le_of_ble_eq_true rfl) (Nat.le_of_ble_eq_true rfl) (r_fails1 hb (by assumption) _) ?_
    rw [upF_upF]
    refine w_ifeq_f rfl (by first | omega | exact (hg.2 _ _ _).1 | exact (hg.1 _).1 | (simp only [Int.toNat_natCast, upF_2] at *; omega)) (by first | omega | exact (hg.2 _ _ _).2 | exact (hg.1 _).2 | (simp only [Int.toNat_natCast, upF_2] at *; omega)) (by first | omega | (simp only [Int.toNat_natCast, upF_2] at *; omega)) ?_
    refine w_return rfl rfl ?_
    exact ⟨rfl, rfl⟩
  refine w_aload_n rfl rfl ?_
  refine w_aload_n rfl rfl ?_
  refine w_iload_n rfl rfl ?_
  refine w_iconst rfl ?_
  refine w_cvV rfl (by decide) (by first | omega | (simp only [Int.toNat_natCast, upF_2] at *; omega)) rfl RH_obj mt_115 (Nat.le_of_ble_eq_true rfl) (Nat.le_of_ble_eq_true rfl) (r_is1 hb (by assumption) _ hp (by decide) (by decide)) ?_
  refine w_ifne_t rfl (by first | omega | exact (hg.2 _ _ _).1 | exact (hg.1 _).1 | (simp only [Int.toNat_natCast, upF_2] at *; omega)) (by first | omega | exact (hg.2 _ _ _).2 | exact (hg.1 _).2 | (simp only [Int.toNat_natCast, upF_2] at *; omega)) (by first | omega | (simp only [Int.toNat_natCast, upF_2] at *; omega)) ?_
  refine w_iconst rfl ?_
  refine w_iconst rfl ?_
  refine w_cvV rfl (by decide) (by first | omega | (simp only [Int.toNat_natCast, upF_2] at *; omega)) rfl RH_obj mt_112 (Nat.le_of_ble_eq_true rfl) (Nat.le_of_ble_eq_true rfl) (r_fails0 hb (by assumption) _) ?_
  refine w_ifeq_t rfl (by first | omega | exact (hg.2 _ _ _).1 | exact (hg.1 _).1 | (simp only [Int.toNat_natCast, upF_2] at *; omega)) (by first | omega | exact (hg.2 _ _ _).2 | exact (hg.1 _).2 | (simp only [Int.toNat_natCast, upF_2] at *; omega)) (by first | omega | (simp only [Int.toNat_natCast, upF_2] at *; omega)) ?_
  refine w_aload_n rfl rfl ?_
  refine w_iload_n rfl rfl ?_
  refine w_iflt_f rfl (by first | omega | exact (hg.2 _ _ _).1 | exact (hg.1 _).1 | (simp only [Int.toNat_natCast, upF_2] at *; omega)) (by first | omega | exact (hg.2 _ _ _).2 | exact (hg.1 _).2 | (simp only [Int.toNat_natCast, upF_2] at *; omega)) (by first | omega | (simp only [Int.toNat_natCast, upF_2] at *; omega)) ?_
  refine w_iload_n rfl rfl ?_
  refine w_aload_n rfl rfl ?_
  refine m_get rfl rfl ?_
  refine w_iload_n rfl rfl ?_
  refine m_iaload rfl hb rl_4 (by first | omega | (simp only [Int.toNat_natCast, upF_2] at *; omega)) (by first | omega | (simp only [Int.toNat_natCast, upF_2] at *; omega)) ?_
  refine w_icle_f rfl (by first | omega | exact (hg.2 _ _ _).1 | exact (hg.1 _).1 | (simp only [Int.toNat_natCast, upF_2] at *; omega)) (by first | omega | exact (hg.2 _ _ _).2 | exact (hg.1 _).2 | (simp only [Int.toNat_natCast, upF_2] at *; omega)) (by first | omega | exact (hg.2 _ _ _).1 | exact (hg.1 _).1 | (simp only [Int.toNat_natCast, upF_2] at *; omega)) (by first | omega | exact (hg.2 _ _ _).2 | exact (hg.1 _).2 | (simp only [Int.toNat_natCast, upF_2] at *; omega)) (by first | omega | (simp only [Int.toNat_natCast, upF_2] at *; omega)) ?_
  refine w_iconst rfl ?_
  refine w_goto rfl ?_
  refine w_iconst rfl ?_
  refine w_cvV rfl (by decide) (by first | omega | (simp only [Int.toNat_natCast, upF_2] at *; omega)) rfl RH_obj mt_112 (Nat.le_of_ble_eq_true rfl) (Nat.le_of_ble_eq_true rfl) (r_fails1 hb (by assumption) _) ?_
  rw [upF_upF]
  refine w_ifeq_f rfl (by first | omega | exact (hg.2 _ _ _).1 | exact (hg.1 _).1 | (simp only [Int.toNat_natCast, upF_2] at *; omega)) (by first | omega | exact (hg.2 _ _ _).2 | exact (hg.1 _).2 | (simp only [Int.toNat_natCast, upF_2] at *; omega)) (by first | omega | (simp only [Int.toNat_natCast, upF_2] at *; omega)) ?_
  refine w_return rfl rfl ?_
  exact ⟨rfl, rfl⟩
def rCut (ρ : RS) (n : Nat) (c : Int) : RS := upA (upF (upA (upF ρ 0 0) 4 0 n c) 7 (ρ.1 7 + 1)) 5 0 n (ρ.1 7 + 1)
theorem r_cut (hb : b < m0) (hg : Rg ρ) (d : Nat) (hd : 1 ≤ d) {n c : Int} (n1 : -2147483648 ≤ n) (n2 : n ≤ 2147483647) (c1 : -2147483648 ≤ c) (c2 : c ≤ 2147483647) (hp : 0 ≤ n ∧ n < 256 ∧ ρ.2 1 0 n.toNat = 1) (q1 : 0 ≤ c) (q2 : c ≤ ρ.2 4 0 n.toNat) : Wp b L xs d mi_118 0 (ent (mL mi_118) [.ref m0, vI n, vI c]) [] (RH m0 h ρ) (Rn (RH m0 h (rCut ρ n.toNat c))) := by
  have hg0 : Rg (upF ρ 0 0) := hg.upF 0 (by decide) (by decide)
  refine w_aload_n rfl rfl ?_
  refine w_aload_n rfl rfl ?_
  refine w_iload_n rfl rfl ?_
  refine w_iconst rfl ?_
  refine w_cvV rfl (by decide) (by first | omega | (simp only [Int.toNat_natCast, upF_2] at *; omega)) rfl RH_obj mt_115 (Nat.le_of_ble_eq_true rfl) (Nat.le_of_ble_eq_true rfl) (r_is1 hb (by assumption) _ hp (by decide) (by decide)) ?_
  refine w_ifne_t rfl (by first | omega | exact (hg.2 _ _ _).1 | exact (hg.1 _).1 | (simp only [Int.toNat_natCast, upF_2] at *; omega)) (by first | omega | exact (hg.2 _ _ _).2 | exact (hg.1 _).2 | (simp only [Int.toNat_natCast, upF_2] at *; omega)) (by first | omega | (simp only [Int.toNat_natCast, upF_2] at *; omega)) ?_
  refine w_iconst rfl ?_
  refine w_iconst rfl ?_
  refine w_cvV rfl (by decide) (by first | omega | (simp only [Int.toNat_natCast, upF_2] at *; omega)) rfl RH_obj mt_112 (Nat.le_of_ble_eq_true rfl) (Nat.le_of_ble_eq_true rfl) (r_fails0 hb (by assumption) _) ?_
  refine w_ifeq_t rfl (by first | omega | exact (hg.2 _ _ _).1 | exact (hg.1 _).1 | (simp only [Int.toNat_natCast, upF_2] at *; omega)) (by first | omega | exact (hg.2 _ _ _).2 | exact (hg.1 _).2 | (simp only [Int.toNat_natCast, upF_2] at *; omega)) (by first | omega | (simp only [Int.toNat_natCast, upF_2] at *; omega)) ?_
  refine w_aload_n rfl rfl ?_
  refine w_iload_n rfl rfl ?_
  refine w_iflt_f rfl (by first | omega | exact (hg.2 _ _ _).1 | exact (hg.1 _).1 | (simp only [Int.toNat_natCast, upF_2] at *; omega)) (by first | omega | exact (hg.2 _ _ _).2 | exact (hg.1 _).2 | (simp only [Int.toNat_natCast, upF_2] at *; omega)) (by first | omega | (simp only [Int.toNat_natCast, upF_2] at *; omega)) ?_
  refine w_iload_n rfl rfl ?_
  refine w_aload_n rfl rfl ?_
  refine m_get rfl rfl ?_
  refine w_iload_n rfl rfl ?_
  refine m_iaload rfl hb rl_4 (by first | omega | (simp only [Int.toNat_natCast, upF_2] at *; omega)) (by first | omega | (simp only [Int.toNat_natCast, upF_2] at *; omega)) ?_
  refine w_icle_t rfl (by first | omega | exact (hg.2 _ _ _).1 | exact (hg.1 _).1 | (simp only [Int.toNat_natCast, upF_2] at *; omega)) (by first | omega | exact (hg.2 _ _ _).2 | exact (hg.1 _).2 | (simp only [Int.toNat_natCast, upF_2] at *; omega)) (by first | omega | exact (hg.2 _ _ _).1 | exact (hg.1 _).1 | (simp only [Int.toNat_natCast, upF_2] at *; omega)) (by first | omega | exact (hg.2 _ _ _).2 | exact (hg.1 _).2 | (simp only [Int.toNat_natCast, upF_2] at *; omega)) (by first | omega | (simp only [Int.toNat_natCast, upF_2] at *; omega)) ?_
  refine w_iconst rfl ?_
  refine w_iconst rfl ?_
  refine w_cvV rfl (by decide) (by first | omega | (simp only [Int.toNat_natCast, upF_2] at *; omega)) rfl RH_obj mt_112 (Nat.le_of_ble_eq_true rfl) (Nat.le_of_ble_eq_true rfl) (r_fails0 hb (by assumption) _) ?_
  rw [upF_upF]
  refine w_ifeq_t rfl (by first | omega | exact (hg.2 _ _ _).1 | exact (hg.1 _).1 | (simp only [Int.toNat_natCast, upF_2] at *; omega)) (by first | omega | exact (hg.2 _ _ _).2 | exact (hg.1 _).2 | (simp only [Int.toNat_natCast, upF_2] at *; omega)) (by first | omega | (simp only [Int.toNat_natCast, upF_2] at *; omega)) ?_
  refine w_aload_n rfl rfl ?_
  refine m_get rfl rfl ?_
  refine w_iload_n rfl rfl ?_
  refine w_iload_n rfl rfl ?_
  refine m_iastore rfl rl_4 (by first | omega | (simp only [Int.toNat_natCast, upF_2] at *; omega)) (by first | omega | (simp only [Int.toNat_natCast, upF_2] at *; omega)) ?_
  refine w_aload_n rfl rfl ?_
  refine m_get rfl rfl ?_
  refine w_iload_n rfl rfl ?_
  refine w_aload_n rfl rfl ?_
  refine w_dupR rfl ?_
  refine m_get rfl rfl ?_
  refine w_iconst rfl ?_
  refine w_iadd rfl ?_
  refine w_dup_x1 rfl ?_
  refine m_put rfl rfl rfl rfl ?_
  refine m_iastore rfl rl_5 (by first | omega | (simp only [Int.toNat_natCast, upF_2] at *; omega)) (by first | omega | (simp only [Int.toNat_natCast, upF_2] at *; omega)) ?_
  refine w_return rfl rfl ?_
  exact ⟨rfl, rfl⟩
theorem r_move_1 (hb : b < m0) (hg : Rg ρ) (d : Nat) (hd : 1 ≤ d) {n p c : Int} (n1 : -2147483648 ≤ n) (n2 : n ≤ 2147483647) (p1 : -2147483648 ≤ p) (p2 : p ≤ 2147483647) (c1 : -2147483648 ≤ c) (c2 : c ≤ 2147483647) (hc : ¬ (1 ≤ n ∧ n < 256 ∧ ρ.2 1 0 n.toNat ≠ 0) ∨ ¬ (0 ≤ p ∧ p < 256 ∧ ρ.2 1 0 p.toNat = 2) ∨ c < 1 ∨ 30000 < c) : Wp b L xs d mi_119 0 (ent (mL mi_119) [.ref m0, vI n, vI p, vI c]) [] (RH m0 h ρ) (Rn (RH m0 h (upF ρ 0 1))) := by
  by_cases q1 : n < 1
  · refine w_aload_n rfl rfl ?_
    refine w_iload_n rfl rfl ?_
    refine w_iconst rfl ?_
    refine w_iclt_t rfl (by first | omega | exact (hg.2 _ _ _).1 | exact (hg.1 _).1 | (simp only [Int.toNat_natCast, upF_2] at *; omega)) (by first | omega | exact (hg.2 _ _ _).2 | exact (hg.1 _).2 | (simp only [Int.toNat_natCast, upF_2] at *; omega)) (by first | omega | exact (hg.2 _ _ _).1 | exact (hg.1 _).1 | (simp only [Int.toNat_natCast, upF_2] at *; omega)) (by first | omega | exact (hg.2 _ _ _).2 | exact (hg.1 _).2 | (simp only [Int.toNat_natCast, upF_2] at *; omega)) (by first | omega | (simp only [Int.toNat_natCast, upF_2] at *; omega)) ?_
    refine w_iconst rfl ?_
    refine w_goto rfl ?_
    refine w_iconst rfl ?_
    refine w_cvV rfl (by decide) (by first | omega | (simp only [Int.toNat_natCast, upF_2] at *; omega)) rfl RH_obj mt_112 (Nat.le_of_ble_eq_true rfl) (Nat.le_of_ble_eq_true rfl) (r_fails1 hb (by assumption) _) ?_
    refine w_ifeq_f rfl (by first | omega | exact (hg.2 _ _ _).1 | exact (hg.1 _).1 | (simp only [Int.toNat_natCast, upF_2] at *; omega)) (by first | omega | exact (hg.2 _ _ _).2 | exact (hg.1 _).2 | (simp only [Int.toNat_natCast, upF_2] at *; omega)) (by first | omega | (simp only [Int.toNat_natCast, upF_2] at *; omega)) ?_
    refine w_return rfl rfl ?_
    exact ⟨rfl, rfl⟩
  by_cases q2 : 256 ≤ n
  · refine w_aload_n rfl rfl ?_
    refine w_iload_n rfl rfl ?_
    refine w_iconst rfl ?_
    refine w_iclt_f rfl (by first | omega | exact (hg.2 _ _ _).1 | exact (hg.1 _).1 | (simp only [Int.toNat_natCast, upF_2] at *; omega)) (by first | omega | exact (hg.2 _ _ _).2 | exact (hg.1 _).2 | (simp only [Int.toNat_natCast, upF_2] at *; omega)) (by first | omega | exact (hg.2 _ _ _).1 | exact (hg.1 _).1 | (simp only [Int.toNat_natCast, upF_2] at *; omega)) (by first | omega | exact (hg.2 _ _ _).2 | exact (hg.1 _).2 | (simp only [Int.toNat_natCast, upF_2] at *; omega)) (by first | omega | (simp only [Int.toNat_natCast, upF_2] at *; omega)) ?_
    refine w_iload_n rfl rfl ?_
    refine w_sipush rfl rfl ?_
    refine w_icge_t rfl (by first | omega | exact (hg.2 _ _ _).1 | exact (hg.1 _).1 | (simp only [Int.toNat_natCast, upF_2] at *; omega)) (by first | omega | exact (hg.2 _ _ _).2 | exact (hg.1 _).2 | (simp only [Int.toNat_natCast, upF_2] at *; omega)) (by first | omega | exact (hg.2 _ _ _).1 | exact (hg.1 _).1 | (simp only [Int.toNat_natCast, upF_2] at *; omega)) (by first | omega | exact (hg.2 _ _ _).2 | exact (hg.1 _).2 | (simp only [Int.toNat_natCast, upF_2] at *; omega)) (by first | omega | (simp only [Int.toNat_natCast, upF_2] at *; omega)) ?_
    refine w_iconst rfl ?_
    refine w_goto rfl ?_
    refine w_iconst rfl ?_
    refine w_cvV rfl (by decide) (by first | omega | (simp only [Int.toNat_natCast, upF_2] at *; omega)) rfl RH_obj mt_112 (Nat.le_of_ble_eq_true rfl) (Nat.le_of_ble_eq_true rfl) (r_fails1 hb (by assumption) _) ?_
    refine w_ifeq_f rfl (by first | omega | exact (hg.2 _ _ _).1 | exact (hg.1 _).1 | (simp only [Int.toNat_natCast, upF_2] at *; omega)) (by first | omega | exact (hg.2 _ _ _).2 | exact (hg.1 _).2 | (simp only [Int.toNat_natCast, upF_2] at *; omega)) (by first | omega | (simp only [Int.toNat_natCast, upF_2] at *; omega)) ?_
    refine w_return rfl rfl ?_
    exact ⟨rfl, rfl⟩
  by_cases q3 : ρ.2 1 0 n.toNat = 0
  · refine w_aload_n rfl rfl ?_
    refine w_iload_n rfl rfl ?_
    refine w_iconst rfl ?_
    refine w_iclt_f rfl (by first | omega | exact (hg.2 _ _ _).1 | exact (hg.1 _).1 | (simp only [Int.toNat_natCast, upF_2] at *; omega)) (by first | omega | exact (hg.2 _ _ _).2 | exact (hg.1 _).2 | (simp only [Int.toNat_natCast, upF_2] at *; omega)) (by first | omega | exact (hg.2 _ _ _).1 | exact (hg.1 _).1 | (simp only [Int.toNat_natCast, upF_2] at *; omega)) (by first | omega | exact (hg.2 _ _ _).2 | exact (hg.1 _).2 | (simp only [Int.toNat_natCast, upF_2] at *; omega)) (by first | omega | (simp only [Int.toNat_natCast, upF_2] at *; omega)) ?_
    refine w_iload_n rfl rfl ?_
    refine w_sipush rfl rfl ?_
    refine w_icge_f rfl (by first | omega | exact (hg.2 _ _ _).1 | exact (hg.1 _).1 | (simp only [Int.toNat_natCast, upF_2] at *; omega)) (by first | omega | exact (hg.2 _ _ _).2 | exact (hg.1 _).2 | (simp only [Int.toNat_natCast, upF_2] at *; omega)) (by first | omega | exact (hg.2 _ _ _).1 | exact (hg.1 _).1 | (simp only [Int.toNat_natCast, upF_2] at *; omega)) (by first | omega | exact (hg.2 _ _ _).2 | exact (hg.1 _).2 | (simp only [Int.toNat_natCast, upF_2] at *; omega)) (by first | omega | (simp only [Int.toNat_natCast, upF_2] at *; omega)) ?_
    refine w_aload_n rfl rfl ?_
    refine m_get rfl rfl ?_
    refine w_iload_n rfl rfl ?_
    refine m_iaload rfl hb rl_1 (by first | omega | (simp only [Int.toNat_natCast, upF_2] at *; omega)) (by first | omega | (simp only [Int.toNat_natCast, upF_2] at *; omega)) ?_
    refine w_ifeq_t rfl (by first | omega | exact (hg.2 _ _ _).1 | exact (hg.1 _).1 | (simp only [Int.toNat_natCast, upF_2] at *; omega)) (by first | omega | exact (hg.2 _ _ _).2 | exact (hg.1 _).2 | (simp only [Int.toNat_natCast, upF_2] at *; omega)) (by first | omega | (simp only [Int.toNat_natCast, upF_2] at *; omega)) ?_
    refine w_iconst rfl ?_
    refine w_goto rfl ?_
    refine w_iconst rfl ?_
    refine w_cvV rfl (by decide) (by first | omega | (simp only [Int.toNat_natCast, upF_2] at *; omega)) rfl RH_obj mt_112 (Nat.le_of_ble_eq_true rfl) (Nat.le_of_ble_eq_true rfl) (r_fails1 hb (by assumption) _) ?_
    refine w_ifeq_f rfl (by first | omega | exact (hg.2 _ _ _).1 | exact (hg.1 _).1 | (simp only [Int.toNat_natCast, upF_2] at *; omega)) (by first | omega | exact (hg.2 _ _ _).2 | exact (hg.1 _).2 | (simp only [Int.toNat_natCast, upF_2] at *; omega)) (by first | omega | (simp only [Int.toNat_natCast, upF_2] at *; omega)) ?_
    refine w_return rfl rfl ?_
    exact ⟨rfl, rfl⟩
  by_cases hp : 0 ≤ p ∧ p < 256 ∧ ρ.2 1 0 p.toNat = 2
  · by_cases q5 : c < 1
    · refine w_aload_n rfl rfl ?_
      refine w_iload_n rfl rfl ?_
      refine w_iconst rfl ?_
      refine w_iclt_f rfl (by first | omega | exact (hg.2 _ _ _).1 | exact (hg.1 _).1 | (simp only [Int.toNat_natCast, upF_2] at *; omega)) (by first | omega | exact (hg.2 _ _ _).2 | exact (hg.1 _).2 | (simp only [Int.toNat_natCast, upF_2] at *; omega)) (by first | omega | exact (hg.2 _ _ _).1 | exact (hg.1 _).1 | (simp only [Int.toNat_natCast, upF_2] at *; omega)) (by first | omega | exact (hg.2 _ _ _).2 | exact (hg.1 _).2 | (simp only [Int.toNat_natCast, upF_2] at *; omega)) (by first | omega | (simp only [Int.toNat_natCast, upF_2] at *; omega)) ?_
      refine w_iload_n rfl rfl ?_
      refine w_sipush rfl rfl ?_
      refine w_icge_f rfl (by first | omega | exact (hg.2 _ _ _).1 | exact (hg.1 _).1 | (simp only [Int.toNat_natCast, upF_2] at *; omega)) (by first | omega | exact (hg.2 _ _ _).2 | exact (hg.1 _).2 | (simp only [Int.toNat_natCast, upF_2] at *; omega)) (by first | omega | exact (hg.2 _ _ _).1 | exact (hg.1 _).1 | (simp only [Int.toNat_natCast, upF_2] at *; omega)) (by first | omega | exact (hg.2 _ _ _).2 | exact (hg.1 _).2 | (simp only [Int.toNat_natCast, upF_2] at *; omega)) (by first | omega | (simp only [Int.toNat_natCast, upF_2] at *; omega)) ?_
      refine w_aload_n rfl rfl ?_
      refine m_get rfl rfl ?_
      refine w_iload_n rfl rfl ?_
      refine m_iaload rfl hb rl_1 (by first | omega | (simp only [Int.toNat_natCast, upF_2] at *; omega)) (by first | omega | (simp only [Int.toNat_natCast, upF_2] at *; omega)) ?_
      refine w_ifeq_f rfl (by first | omega | exact (hg.2 _ _ _).1 | exact (hg.1 _).1 | (simp only [Int.toNat_natCast, upF_2] at *; omega)) (by first | omega | exact (hg.2 _ _ _).2 | exact (hg.1 _).2 | (simp only [Int.toNat_natCast, upF_2] at *; omega)) (by first | omega | (simp only [Int.toNat_natCast, upF_2] at *; omega)) ?_
      refine w_aload_n rfl rfl ?_
      refine w_iload_n rfl rfl ?_
      refine w_iconst rfl ?_
      refine w_cvV rfl (by decide) (by first | omega | (simp only [Int.toNat_natCast, upF_2] at *; omega)) rfl RH_obj mt_115 (Nat.le_of_ble_eq_true rfl) (Nat.le_of_ble_eq_true rfl) (r_is1 hb (by assumption) _ hp (by decide) (by decide)) ?_
      refine w_ifeq_f rfl (by first | omega | exact (hg.2 _ _ _).1 | exact (hg.1 _).1 | (simp only [Int.toNat_natCast, upF_2] at *; omega)) (by first | omega | exact (hg.2 _ _ _).2 | exact (hg.1 _).2 | (simp only [Int.toNat_natCast, upF_2] at *; omega)) (by first | omega | (simp only [Int.toNat_natCast, upF_2] at *; omega)) ?_
      refine w_iload_n rfl rfl ?_
      refine w_iconst rfl ?_
      refine w_iclt_t rfl (by first | omega | exact (hg.2 _ _ _).1 | exact (hg.1 _).1 | (simp only [Int.toNat_natCast, upF_2] at *; omega)) (by first | omega | exact (hg.2 _ _ _).2 | exact (hg.1 _).2 | (simp only [Int.toNat_natCast, upF_2] at *; omega)) (by first | omega | exact (hg.2 _ _ _).1 | exact (hg.1 _).1 | (simp only [Int.toNat_natCast, upF_2] at *; omega)) (by first | omega | exact (hg.2 _ _ _).2 | exact (hg.1 _).2 | (simp only [Int.toNat_natCast, upF_2] at *; omega)) (by first | omega | (simp only [Int.toNat_natCast, upF_2] at *; omega)) ?_
      refine w_iconst rfl ?_
      refine w_goto rfl ?_
      refine w_iconst rfl ?_
      refine w_cvV rfl (by decide) (by first | omega | (simp only [Int.toNat_natCast, upF_2] at *; omega)) rfl RH_obj mt_112 (Nat.le_of_ble_eq_true rfl) (Nat.le_of_ble_eq_true rfl) (r_fails1 hb (by assumption) _) ?_
      refine w_ifeq_f rfl (by first | omega | exact (hg.2 _ _ _).1 | exact (hg.1 _).1 | (simp only [Int.toNat_natCast, upF_2] at *; omega)) (by first | omega | exact (hg.2 _ _ _).2 | exact (hg.1 _).2 | (simp only [Int.toNat_natCast, upF_2] at *; omega)) (by first | omega | (simp only [Int.toNat_natCast, upF_2] at *; omega)) ?_
      refine w_return rfl rfl ?_
      exact ⟨rfl, rfl⟩
    refine w_aload_n rfl rfl ?_
    refine w_iload_n rfl rfl ?_
    refine w_iconst rfl ?_
    refine w_iclt_f rfl (by first | omega | exact (hg.2 _ _ _).1 | exact (hg.1 _).1 | (simp only [Int.toNat_natCast, upF_2] at *; omega)) (by first | omega | exact (hg.2 _ _ _).2 | exact (hg.1 _).2 | (simp only [Int.toNat_natCast, upF_2] at *; omega)) (by first | omega | exact (hg.2 _ _ _).1 | exact (hg.1 _).1 | (simp only [Int.toNat_natCast, upF_2] at *; omega)) (by first | omega | exact (hg.2 _ _ _).2 | exact (hg.1 _).2 | (simp only [Int.toNat_natCast, upF_2] at *; omega)) (by first | omega | (simp only [Int.toNat_natCast, upF_2] at *; omega)) ?_
    refine w_iload_n rfl rfl ?_
    refine w_sipush rfl rfl ?_
    refine w_icge_f rfl (by first | omega | exact (hg.2 _ _ _).1 | exact (hg.1 _).1 | (simp only [Int.toNat_natCast, upF_2] at *; omega)) (by first | omega | exact (hg.2 _ _ _).2 | exact (hg.1 _).2 | (simp only [Int.toNat_natCast, upF_2] at *; omega)) (by first | omega | exact (hg.2 _ _ _).1 | exact (hg.1 _).1 | (simp only [Int.toNat_natCast, upF_2] at *; omega)) (by first | omega | exact (hg.2 _ _ _).2 | exact (hg.1 _).2 | (simp only [Int.toNat_natCast, upF_2] at *; omega)) (by first | omega | (simp only [Int.toNat_natCast, upF_2] at *; omega)) ?_
    refine w_aload_n rfl rfl ?_
    refine m_get rfl rfl ?_
    refine w_iload_n rfl rfl ?_
    refine m_iaload rfl hb rl_1 (by first | omega | (simp only [Int.toNat_natCast, upF_2] at *; omega)) (by first | omega | (simp only [Int.toNat_natCast, upF_2] at *; omega)) ?_
    refine w_ifeq_f rfl (by first | omega | exact (hg.2 _ _ _).1 | exact (hg.1 _).1 | (simp only [Int.toNat_natCast, upF_2] at *; omega)) (by first | omega | exact (hg.2 _ _ _).2 | exact (hg.1 _).2 | (simp only [Int.toNat_natCast, upF_2] at *; omega)) (by first | omega | (simp only [Int.toNat_natCast, upF_2] at *; omega)) ?_
    refine w_aload_n rfl rfl ?_
    refine w_iload_n rfl rfl ?_
    refine w_iconst rfl ?_
    refine w_cvV rfl (by decide) (by first | omega | (simp only [Int.toNat_natCast, upF_2] at *; omega)) rfl RH_obj mt_115 (Nat.le_of_ble_eq_true rfl) (Nat.le_of_ble_eq_true rfl) (r_is1 hb (by assumption) _ hp (by decide) (by decide)) ?_
    refine w_ifeq_f rfl (by first | omega | exact (hg.2 _ _ _).1 | exact (hg.1 _).1 | (simp only [Int.toNat_natCast, upF_2] at *; omega)) (by first | omega | exact (hg.2 _ _ _).2 | exact (hg.1 _).2 | (simp only [Int.toNat_natCast, upF_2] at *; omega)) (by first | omega | (simp only [Int.toNat_natCast, upF_2] at *; omega)) ?_
    refine w_iload_n rfl rfl ?_
    refine w_iconst rfl ?_
    refine w_iclt_f rfl (by first | omega | exact (hg.2 _ _ _).1 | exact (hg.1 _).1 | (simp only [Int.toNat_natCast, upF_2] at *; omega)) (by first | omega | exact (hg.2 _ _ _).2 | exact (hg.1 _).2 | (simp only [Int.toNat_natCast, upF_2] at *; omega)) (by first | omega | exact (hg.2 _ _ _).1 | exact (hg.1 _).1 | (simp only [Int.toNat_natCast, upF_2] at *; omega)) (by first | omega | exact (hg.2 _ _ _).2 | exact (hg.1 _).2 | (simp only [Int.toNat_natCast, upF_2] at *; omega)) (by first | omega | (simp only [Int.toNat_natCast, upF_2] at *; omega)) ?_
    refine w_iload_n rfl rfl ?_
    refine w_sipush rfl rfl ?_
    refine w_icle_f rfl (by first | omega | exact (hg.2 _ _ _).1 | exact (hg.1 _).1 | (simp only [Int.toNat_natCast, upF_2] at *; omega)) (by first | omega | exact (hg.2 _ _ _).2 | exact (hg.1 _).2 | (simp only [Int.toNat_natCast, upF_2] at *; omega)) (by first | omega | exact (hg.2 _ _ _).1 | exact (hg.1 _).1 | (simp only [Int.toNat_natCast, upF_2] at *; omega)) (by first | omega | exact (hg.2 _ _ _).2 | exact (hg.1 _).2 | (simp only [Int.toNat_natCast, upF_2] at *; omega)) (by first | omega | (simp only [Int.toNat_natCast, upF_2] at *; omega)) ?_
    refine w_iconst rfl ?_
    refine w_goto rfl ?_
    refine w_iconst rfl ?_
    refine w_cvV rfl (by decide) (by first | omega | (simp only [Int.toNat_natCast, upF_2] at *; omega)) rfl RH_obj mt_112 (Nat.le_of_ble_eq_true rfl) (Nat.le_of_ble_eq_true rfl) (r_fails1 hb (by assumption) _) ?_
    refine w_ifeq_f rfl (by first | omega | exact (hg.2 _ _ _).1 | exact (hg.1 _).1 | (simp only [Int.toNat_natCast, upF_2] at *; omega)) (by first | omega | exact (hg.2 _ _ _).2 | exact (hg.1 _).2 | (simp only [Int.toNat_natCast, upF_2] at *; omega)) (by first | omega | (simp only [Int.toNat_natCast, upF_2] at *; omega)) ?_
    refine w_return rfl rfl ?_
    exact ⟨rfl, rfl⟩
  · refine w_aload_n rfl rfl ?_
    refine w_iload_n rfl rfl ?_
    refine w_iconst rfl ?_
    refine w_iclt_f rfl (by first | omega | exact (hg.2 _ _ _).1 | exact (hg.1 _).1 | (simp only [Int.toNat_natCast, upF_2] at *; omega)) (by first | omega | exact (hg.2 _ _ _).2 | exact (hg.1 _).2 | (simp only [Int.toNat_natCast, upF_2] at *; omega)) (by first | omega | exact (hg.2 _ _ _).1 | exact (hg.1 _).1 | (simp only [Int.toNat_natCast, upF_2] at *; omega)) (by first | omega | exact (hg.2 _ _ _).2 | exact (hg.1 _).2 | (simp only [Int.toNat_natCast, upF_2] at *; omega)) (by first | omega | (simp only [Int.toNat_natCast, upF_2] at *; omega)) ?_
    refine w_iload_n rfl rfl ?_
    refine w_sipush rfl rfl ?_
    refine w_icge_f rfl (by first | omega | exact (hg.2 _ _ _).1 | exact (hg.1 _).1 | (simp only [Int.toNat_natCast, upF_2] at *; omega)) (by first | omega | exact (hg.2 _ _ _).2 | exact (hg.1 _).2 | (simp only [Int.toNat_natCast, upF_2] at *; omega)) (by first | omega | exact (hg.2 _ _ _).1 | exact (hg.1 _).1 | (simp only [Int.toNat_natCast, upF_2] at *; omega)) (by first | omega | exact (hg.2 _ _ _).2 | exact (hg.1 _).2 | (simp only [Int.toNat_natCast, upF_2] at *; omega)) (by first | omega | (simp only [Int.toNat_natCast, upF_2] at *; omega)) ?_
    refine w_aload_n rfl rfl ?_
    refine m_get rfl rfl ?_
    refine w_iload_n rfl rfl ?_
    refine m_iaload rfl hb rl_1 (by first | omega | (simp only [Int.toNat_natCast, upF_2] at *; omega)) (by first | omega | (simp only [Int.toNat_natCast, upF_2] at *; omega)) ?_
    refine w_ifeq_f rfl (by first | omega | exact (hg.2 _ _ _).1 | exact (hg.1 _).1 | (simp only [Int.toNat_natCast, upF_2] at *; omega)) (by first | omega | exact (hg.2 _ _ _).2 | exact (hg.1 _).2 | (simp only [Int.toNat_natCast, upF_2] at *; omega)) (by first | omega | (simp only [Int.toNat_natCast, upF_2] at *; omega)) ?_
    refine w_aload_n rfl rfl ?_
    refine w_iload_n rfl rfl ?_
    refine w_iconst rfl ?_
    refine w_cvV rfl (by decide) (by first | omega | (simp only [Int.toNat_natCast, upF_2] at *; omega)) rfl RH_obj mt_115 (Nat.le_of_ble_eq_true rfl) (Nat.le_of_ble_eq_true rfl) (r_is0 hb (by assumption) _ hp (by first | omega | exact (hg.2 _ _ _).1 | exact (hg.1 _).1 | (simp only [Int.toNat_natCast, upF_2] at *; omega)) (by first | omega | exact (hg.2 _ _ _).2 | exact (hg.1 _).2 | (simp only [Int.toNat_natCast, upF_2] at *; omega)) (by decide) (by decide)) ?_
    refine w_ifeq_t rfl (by first | omega | exact (hg.2 _ _ _).1 | exact (hg.1 _).1 | (simp only [Int.toNat_natCast, upF_2] at *; omega)) (by first | omega | exact (hg.2 _ _ _).2 | exact (hg.1 _).2 | (simp only [Int.toNat_natCast, upF_2] at *; omega)) (by first | omega | (simp only [Int.toNat_natCast, upF_2] at *; omega)) ?_
    refine w_iconst rfl ?_
    refine w_goto rfl ?_
    refine w_iconst rfl ?_
    refine w_cvV rfl (by decide) (by first | omega | (simp only [Int.toNat_natCast, upF_2] at *; omega)) rfl RH_obj mt_112 (Nat.le_of_ble_eq_true rfl) (Nat.le_of_ble_eq_true rfl) (r_fails1 hb (by assumption) _) ?_
    refine w_ifeq_f rfl (by first | omega | exact (hg.2 _ _ _).1 | exact (hg.1 _).1 | (simp only [Int.toNat_natCast, upF_2] at *; omega)) (by first | omega | exact (hg.2 _ _ _).2 | exact (hg.1 _).2 | (simp only [Int.toNat_natCast, upF_2] at *; omega)) (by first | omega | (simp only [Int.toNat_natCast, upF_2] at *; omega)) ?_
    refine w_return rfl rfl ?_
    exact ⟨rfl, rfl⟩
theorem r_move_2 (hb : b < m0) (hg : Rg ρ) (d : Nat) (hd : 1 ≤ d) {n p c : Int} (n1 : -2147483648 ≤ n) (n2 : n ≤ 2147483647) (p1 : -2147483648 ≤ p) (p2 : p ≤ 2147483647) (c1 : -2147483648 ≤ c) (c2 : c ≤ 2147483647) (hn : 1 ≤ n ∧ n < 256 ∧ ρ.2 1 0 n.toNat ≠ 0) (hp : 0 ≤ p ∧ p < 256 ∧ ρ.2 1 0 p.toNat = 2) (q1 : 1 ≤ c) (q2 : c ≤ 30000) (q3 : 0 ≤ rNamed ρ p c) (q4 : rNamed ρ p c ≠ n) : Wp b L xs d mi_119 0 (ent (mL mi_119) [.ref m0, vI n, vI p, vI c]) [] (RH m0 h ρ) (Rn (RH m0 h (upF ρ 0 2))) := by
  have hg0 : Rg (upF ρ 0 0) := hg.upF 0 (by decide) (by decide)
  have n1 : rNamed (upF ρ 0 0) p c = rNamed ρ p c := rfl
  have n2 := rNamed_lo ρ p c
  have n3 := rNamed_hi ρ p c
  refine w_aload_n rfl rfl ?_
  refine w_iload_n rfl rfl ?_
  refine w_iconst rfl ?_
  refine w_iclt_f rfl (by first | omega | exact (hg.2 _ _ _).1 | exact (hg.1 _).1 | (simp only [Int.toNat_natCast, upF_2] at *; omega)) (by first | omega | exact (hg.2 _ _ _).2 | exact (hg.1 _).2 | (simp only [Int.toNat_natCast, upF_2] at *; omega)) (by first | omega | exact (hg.2 _ _ _).1 | exact (hg.1 _).1 | (simp only [Int.toNat_natCast, upF_2] at *; omega)) (by first | omega | exact (hg.2 _ _ _).2 | exact (hg.1 _).2 | (simp only [Int.toNat_natCast, upF_2] at *; omega)) (by first | omega | (simp only [Int.toNat_natCast, upF_2] at *; omega)) ?_
  refine w_iload_n rfl rfl ?_
  refine w_sipush rfl rfl ?_
  refine w_icge_f rfl (by first | omega | exact (hg.2 _ _ _).1 | exact (hg.1 _).1 | (simp only [Int.toNat_natCast, upF_2] at *; omega)) (by first | omega | exact (hg.2 _ _ _).2 | exact (hg.1 _).2 | (simp only [Int.toNat_natCast, upF_2] at *; omega)) (by first | omega | exact (hg.2 _ _ _).1 | exact (hg.1 _).1 | (simp only [Int.toNat_natCast, upF_2] at *; omega)) (by first | omega | exact (hg.2 _ _ _).2 | exact (hg.1 _).2 | (simp only [Int.toNat_natCast, upF_2] at *; omega)) (by first | omega | (simp only [Int.toNat_natCast, upF_2] at *; omega)) ?_
  refine w_aload_n rfl rfl ?_
  refine m_get rfl rfl ?_
  refine w_iload_n rfl rfl ?_
  refine m_iaload rfl hb rl_1 (by first | omega | (simp only [Int.toNat_natCast, upF_2] at *; omega)) (by first | omega | (simp only [Int.toNat_natCast, upF_2] at *; omega)) ?_
  refine w_ifeq_f rfl (by first | omega | exact (hg.2 _ _ _).1 | exact (hg.1 _).1 | (simp only [Int.toNat_natCast, upF_2] at *; omega)) (by first | omega | exact (hg.2 _ _ _).2 | exact (hg.1 _).2 | (simp only [Int.toNat_natCast, upF_2] at *; omega)) (by first | omega | (simp only [Int.toNat_natCast, upF_2] at *; omega)) ?_
  refine w_aload_n rfl rfl ?_
  refine w_iload_n rfl rfl ?_
  refine w_iconst rfl ?_
  refine w_cvV rfl (by decide) (by first | omega | (simp only [Int.toNat_natCast, upF_2] at *; omega)) rfl RH_obj mt_115 (Nat.le_of_ble_eq_true rfl) (Nat.le_of_ble_eq_true rfl) (r_is1 hb (by assumption) _ hp (by decide) (by decide)) ?_
  refine w_ifeq_f rfl (by first | omega | exact (hg.2 _ _ _).1 | exact (hg.1 _).1 | (simp only [Int.toNat_natCast, upF_2] at *; omega)) (by first | omega | exact (hg.2 _ _ _).2 | exact (hg.1 _).2 | (simp only [Int.toNat_natCast, upF_2] at *; omega)) (by first | omega | (simp only [Int.toNat_natCast, upF_2] at *; omega)) ?_
  refine w_iload_n rfl rfl ?_
  refine w_iconst rfl ?_
  refine w_iclt_f rfl (by first | omega | exact (hg.2 _ _ _).1 | exact (hg.1 _).1 | (simp only [Int.toNat_natCast, upF_2] at *; omega)) (by first | omega | exact (hg.2 _ _ _).2 | exact (hg.1 _).2 | (simp only [Int.toNat_natCast, upF_2] at *; omega)) (by first | omega | exact (hg.2 _ _ _).1 | exact (hg.1 _).1 | (simp only [Int.toNat_natCast, upF_2] at *; omega)) (by first | omega | exact (hg.2 _ _ _).2 | exact (hg.1 _).2 | (simp only [Int.toNat_natCast, upF_2] at *; omega)) (by first | omega | (simp only [Int.toNat_natCast, upF_2] at *; omega)) ?_
  refine w_iload_n rfl rfl ?_
  refine w_sipush rfl rfl ?_
  refine w_icle_t rfl (by first | omega | exact (hg.2 _ _ _).1 | exact (hg.1 _).1 | (simp only [Int.toNat_natCast, upF_2] at *; omega)) (by first | omega | exact (hg.2 _ _ _).2 | exact (hg.1 _).2 | (simp only [Int.toNat_natCast, upF_2] at *; omega)) (by first | omega | exact (hg.2 _ _ _).1 | exact (hg.1 _).1 | (simp only [Int.toNat_natCast, upF_2] at *; omega)) (by first | omega | exact (hg.2 _ _ _).2 | exact (hg.1 _).2 | (simp only [Int.toNat_natCast, upF_2] at *; omega)) (by first | omega | (simp only [Int.toNat_natCast, upF_2] at *; omega)) ?_
  refine w_iconst rfl ?_
  refine w_iconst rfl ?_
  refine w_cvV rfl (by decide) (by first | omega | (simp only [Int.toNat_natCast, upF_2] at *; omega)) rfl RH_obj mt_112 (Nat.le_of_ble_eq_true rfl) (Nat.le_of_ble_eq_true rfl) (r_fails0 hb (by assumption) _) ?_
  refine w_ifeq_t rfl (by first | omega | exact (hg.2 _ _ _).1 | exact (hg.1 _).1 | (simp only [Int.toNat_natCast, upF_2] at *; omega)) (by first | omega | exact (hg.2 _ _ _).2 | exact (hg.1 _).2 | (simp only [Int.toNat_natCast, upF_2] at *; omega)) (by first | omega | (simp only [Int.toNat_natCast, upF_2] at *; omega)) ?_
  refine w_aload_n rfl rfl ?_
  refine w_iload_n rfl rfl ?_
  refine w_iload_n rfl rfl ?_
  refine w_cvV rfl (by decide) (by first | omega | (simp only [Int.toNat_natCast, upF_2] at *; omega)) rfl RH_obj mt_116 (Nat.le_of_ble_eq_true rfl) (Nat.le_of_ble_eq_true rfl) (r_named hb (by assumption) _ (by first | omega | exact (hg.2 _ _ _).1 | exact (hg.1 _).1 | (simp only [Int.toNat_natCast, upF_2] at *; omega)) (by first | omega | exact (hg.2 _ _ _).2 | exact (hg.1 _).2 | (simp only [Int.toNat_natCast, upF_2] at *; omega)) (by first | omega | exact (hg.2 _ _ _).1 | exact (hg.1 _).1 | (simp only [Int.toNat_natCast, upF_2] at *; omega)) (by first | omega | exact (hg.2 _ _ _).2 | exact (hg.1 _).2 | (simp only [Int.toNat_natCast, upF_2] at *; omega))) ?_
  refine w_istore rfl (by decide) ?_
  refine w_aload_n rfl rfl ?_
  refine w_iload rfl rfl ?_
  refine w_iflt_f rfl (by first | omega | exact (hg.2 _ _ _).1 | exact (hg.1 _).1 | (simp only [Int.toNat_natCast, upF_2] at *; omega)) (by first | omega | exact (hg.2 _ _ _).2 | exact (hg.1 _).2 | (simp only [Int.toNat_natCast, upF_2] at *; omega)) (by first | omega | (simp only [Int.toNat_natCast, upF_2] at *; omega)) ?_
  refine w_iload rfl rfl ?_
  refine w_iload_n rfl rfl ?_
  refine w_iceq_f rfl (by first | omega | exact (hg.2 _ _ _).1 | exact (hg.1 _).1 | (simp only [Int.toNat_natCast, upF_2] at *; omega)) (by first | omega | exact (hg.2 _ _ _).2 | exact (hg.1 _).2 | (simp only [Int.toNat_natCast, upF_2] at *; omega)) (by first | omega | exact (hg.2 _ _ _).1 | exact (hg.1 _).1 | (simp only [Int.toNat_natCast, upF_2] at *; omega)) (by first | omega | exact (hg.2 _ _ _).2 | exact (hg.1 _).2 | (simp only [Int.toNat_natCast, upF_2] at *; omega)) (by first | omega | (simp only [Int.toNat_natCast, upF_2] at *; omega)) ?_
  refine w_iconst rfl ?_
  refine w_goto rfl ?_
  refine w_iconst rfl ?_
  refine w_cvV rfl (by decide) (by first | omega | (simp only [Int.toNat_natCast, upF_2] at *; omega)) rfl RH_obj mt_112 (Nat.le_of_ble_eq_true rfl) (Nat.le_of_ble_eq_true rfl) (r_fails1 hb (by assumption) _) ?_
  rw [upF_upF]
  refine w_ifeq_f rfl (by first | omega | exact (hg.2 _ _ _).1 | exact (hg.1 _).1 | (simp only [Int.toNat_natCast, upF_2] at *; omega)) (by first | omega | exact (hg.2 _ _ _).2 | exact (hg.1 _).2 | (simp only [Int.toNat_natCast, upF_2] at *; omega)) (by first | omega | (simp only [Int.toNat_natCast, upF_2] at *; omega)) ?_
  refine w_return rfl rfl ?_
  exact ⟨rfl, rfl⟩
theorem r_move_l (hb : b < m0) (hg : Rg ρ) {Q : AH → RO → Prop} (d : Nat) {n p0 c : Int} (n1 : 1 ≤ n) (n2 : n < 256) {x : Int} : ∀ (t : Nat) (p : Int), (∀ s, s < t → 0 < upN ρ s p ∧ upN ρ s p < 256 ∧ upN ρ s p ≠ n) → 0 ≤ upN ρ t p → upN ρ t p < 256 → (upN ρ t p = 0 ∨ upN ρ t p = n) → Wp b L xs d mi_119 115 [some (.ref m0), some (vI n), some (vI p0), some (vI c), some (vI x), some (vI (upN ρ t p))] [] (RH m0 h ρ) Q → Wp b L xs d mi_119 92 [some (.ref m0), some (vI n), some (vI p0), some (vI c), some (vI x), some (vI p)] [] (RH m0 h ρ) Q := by
  intro t
  induction t with
  | zero =>
    intro p hs t1 t2 he kk
    have t1 : 0 ≤ p := t1
    have t2 : p < 256 := t2
    have he : p = 0 ∨ p = n := he
    by_cases q : p = 0
    · refine w_iload rfl rfl ?_
      refine w_ifeq_t rfl (by first | omega | exact (hg.2 _ _ _).1 | exact (hg.1 _).1 | (simp only [Int.toNat_natCast, upF_2] at *; omega)) (by first | omega | exact (hg.2 _ _ _).2 | exact (hg.1 _).2 | (simp only [Int.toNat_natCast, upF_2] at *; omega)) (by first | omega | (simp only [Int.toNat_natCast, upF_2] at *; omega)) ?_
      exact kk
    refine w_iload rfl rfl ?_
    refine w_ifeq_f rfl (by first | omega | exact (hg.2 _ _ _).1 | exact (hg.1 _).1 | (simp only [Int.toNat_natCast, upF_2] at *; omega)) (by first | omega | exact (hg.2 _ _ _).2 | exact (hg.1 _).2 | (simp only [Int.toNat_natCast, upF_2] at *; omega)) (by first | omega | (simp only [Int.toNat_natCast, upF_2] at *; omega)) ?_
    refine w_iload rfl rfl ?_
    refine w_iload_n rfl rfl ?_
    refine w_iceq_t rfl (by first | omega | exact (hg.2 _ _ _).1 | exact (hg.1 _).1 | (simp only [Int.toNat_natCast, upF_2] at *; omega)) (by first | omega | exact (hg.2 _ _ _).2 | exact (hg.1 _).2 | (simp only [Int.toNat_natCast, upF_2] at *; omega)) (by first | omega | exact (hg.2 _ _ _).1 | exact (hg.1 _).1 | (simp only [Int.toNat_natCast, upF_2] at *; omega)) (by first | omega | exact (hg.2 _ _ _).2 | exact (hg.1 _).2 | (simp only [Int.toNat_natCast, upF_2] at *; omega)) (by first | omega | (simp only [Int.toNat_natCast, upF_2] at *; omega)) ?_
    exact kk
  | succ t ih =>
    intro p hs t1 t2 he kk
    have h0 : 0 < p ∧ p < 256 ∧ p ≠ n := hs 0 (by omega)
    refine w_iload rfl rfl ?_
    refine w_ifeq_f rfl (by first | omega | exact (hg.2 _ _ _).1 | exact (hg.1 _).1 | (simp only [Int.toNat_natCast, upF_2] at *; omega)) (by first | omega | exact (hg.2 _ _ _).2 | exact (hg.1 _).2 | (simp only [Int.toNat_natCast, upF_2] at *; omega)) (by first | omega | (simp only [Int.toNat_natCast, upF_2] at *; omega)) ?_
    refine w_iload rfl rfl ?_
    refine w_iload_n rfl rfl ?_
    refine w_iceq_f rfl (by first | omega | exact (hg.2 _ _ _).1 | exact (hg.1 _).1 | (simp only [Int.toNat_natCast, upF_2] at *; omega)) (by first | omega | exact (hg.2 _ _ _).2 | exact (hg.1 _).2 | (simp only [Int.toNat_natCast, upF_2] at *; omega)) (by first | omega | exact (hg.2 _ _ _).1 | exact (hg.1 _).1 | (simp only [Int.toNat_natCast, upF_2] at *; omega)) (by first | omega | exact (hg.2 _ _ _).2 | exact (hg.1 _).2 | (simp only [Int.toNat_natCast, upF_2] at *; omega)) (by first | omega | (simp only [Int.toNat_natCast, upF_2] at *; omega)) ?_
    refine w_aload_n rfl rfl ?_
    refine m_get rfl rfl ?_
    refine w_iload rfl rfl ?_
    refine m_iaload rfl hb rl_2 (by first | omega | (simp only [Int.toNat_natCast, upF_2] at *; omega)) (by first | omega | (simp only [Int.toNat_natCast, upF_2] at *; omega)) ?_
    refine w_istore rfl (by decide) ?_
    refine w_goto rfl ?_
    exact ih (ρ.2 2 0 p.toNat) (fun s hs2 => hs (s + 1) (by omega)) t1 t2 he kk
theorem r_move_3 (hb : b < m0) (hg : Rg ρ) (d : Nat) (hd : 1 ≤ d) {n p c : Int} (n1 : -2147483648 ≤ n) (n2 : n ≤ 2147483647) (p1 : -2147483648 ≤ p) (p2 : p ≤ 2147483647) (c1 : -2147483648 ≤ c) (c2 : c ≤ 2147483647) (hn : 1 ≤ n ∧ n < 256 ∧ ρ.2 1 0 n.toNat ≠ 0) (hp : 0 ≤ p ∧ p < 256 ∧ ρ.2 1 0 p.toNat = 2) (q1 : 1 ≤ c) (q2 : c ≤ 30000) (q3 : rNamed ρ p c < 0 ∨ rNamed ρ p c = n) {t : Nat} (hs : ∀ s, s < t → 0 < upN ρ s p ∧ upN ρ s p < 256 ∧ upN ρ s p ≠ n) (ht : upN ρ t p = n) : Wp b L xs d mi_119 0 (ent (mL mi_119) [.ref m0, vI n, vI p, vI c]) [] (RH m0 h ρ) (Rn (RH m0 h (upF ρ 0 3))) := by
  have hg0 : Rg (upF ρ 0 0) := hg.upF 0 (by decide) (by decide)
  have n1 : rNamed (upF ρ 0 0) p c = rNamed ρ p c := rfl
  have n2 := rNamed_lo ρ p c
  have n3 := rNamed_hi ρ p c
  have e0 : ∀ (t : Nat) (p : Int), upN (upF ρ 0 0) t p = upN ρ t p := by
    intro t
    induction t with
    | zero => intro p; rfl
    | succ t ih => intro p; exact ih _
  by_cases q5 : rNamed ρ p c < 0
  · refine w_aload_n rfl rfl ?_
    refine w_iload_n rfl rfl ?_
    refine w_iconst rfl ?_
    refine w_iclt_f rfl (by first | omega | exact (hg.2 _ _ _).1 | exact (hg.1 _).1 | (simp only [Int.toNat_natCast, upF_2] at *; omega)) (by first | omega | exact (hg.2 _ _ _).2 | exact (hg.1 _).2 | (simp only [Int.toNat_natCast, upF_2] at *; omega)) (by first | omega | exact (hg.2 _ _ _).1 | exact (hg.1 _).1 | (simp only [Int.toNat_natCast, upF_2] at *; omega)) (by first | omega | exact (hg.2 _ _ _).2 | exact (hg.1 _).2 | (simp only [Int.toNat_natCast, upF_2] at *; omega)) (by first | omega | (simp only [Int.toNat_natCast, upF_2] at *; omega)) ?_
    refine w_iload_n rfl rfl ?_
    refine w_sipush rfl rfl ?_
    refine w_icge_f rfl (by first | omega | exact (hg.2 _ _ _).1 | exact (hg.1 _).1 | (simp only [Int.toNat_natCast, upF_2] at *; omega)) (by first | omega | exact (hg.2 _ _ _).2 | exact (hg.1 _).2 | (simp only [Int.toNat_natCast, upF_2] at *; omega)) (by first | omega | exact (hg.2 _ _ _).1 | exact (hg.1 _).1 | (simp only [Int.toNat_natCast, upF_2] at *; omega)) (by first | omega | exact (hg.2 _ _ _).2 | exact (hg.1 _).2 | (simp only [Int.toNat_natCast, upF_2] at *; omega)) (by first | omega | (simp only [Int.toNat_natCast, upF_2] at *; omega)) ?_
    refine w_aload_n rfl rfl ?_
    refine m_get rfl rfl ?_
    refine w_iload_n rfl rfl ?_
    refine m_iaload rfl hb rl_1 (by first | omega | (simp only [Int.toNat_natCast, upF_2] at *; omega)) (by first | omega | (simp only [Int.toNat_natCast, upF_2] at *; omega)) ?_
    refine w_ifeq_f rfl (by first | omega | exact (hg.2 _ _ _).1 | exact (hg.1 _).1 | (simp only [Int.toNat_natCast, upF_2] at *; omega)) (by first | omega | exact (hg.2 _ _ _).2 | exact (hg.1 _).2 | (simp only [Int.toNat_natCast, upF_2] at *; omega)) (by first | omega | (simp only [Int.toNat_natCast, upF_2] at *; omega)) ?_
    refine w_aload_n rfl rfl ?_
    refine w_iload_n rfl rfl ?_
    refine w_iconst rfl ?_
    refine w_cvV rfl (by decide) (by first | omega | (simp only [Int.toNat_natCast, upF_2] at *; omega)) rfl RH_obj mt_115 (Nat.le_of_ble_eq_true rfl) (Nat.le_of_ble_eq_true rfl) (r_is1 hb (by assumption) _ hp (by decide) (by decide)) ?_
    refine w_ifeq_f rfl (by first | omega | exact (hg.2 _ _ _).1 | exact (hg.1 _).1 | (simp only [Int.toNat_natCast, upF_2] at *; omega)) (by first | omega | exact (hg.2 _ _ _).2 | exact (hg.1 _).2 | (simp only [Int.toNat_natCast, upF_2] at *; omega)) (by first | omega | (simp only [Int.toNat_natCast, upF_2] at *; omega)) ?_
    refine w_iload_n rfl rfl ?_
    refine w_iconst rfl ?_
    refine w_iclt_f rfl (by first | omega | exact (hg.2 _ _ _).1 | exact (hg.1 _).1 | (simp only [Int.toNat_natCast, upF_2] at *; omega)) (by first | omega | exact (hg.2 _ _ _).2 | exact (hg.1 _).2 | (simp only [Int.toNat_natCast, upF_2] at *; omega)) (by first | omega | exact (hg.2 _ _ _).1 | exact (hg.1 _).1 | (simp only [Int.toNat_natCast, upF_2] at *; omega)) (by first | omega | exact (hg.2 _ _ _).2 | exact (hg.1 _).2 | (simp only [Int.toNat_natCast, upF_2] at *; omega)) (by first | omega | (simp only [Int.toNat_natCast, upF_2] at *; omega)) ?_
    refine w_iload_n rfl rfl ?_
    refine w_sipush rfl rfl ?_
    refine w_icle_t rfl (by first | omega | exact (hg.2 _ _ _).1 | exact (hg.1 _).1 | (simp only [Int.toNat_natCast, upF_2] at *; omega)) (by first | omega | exact (hg.2 _ _ _).2 | exact (hg.1 _).2 | (simp only [Int.toNat_natCast, upF_2] at *; omega)) (by first | omega | exact (hg.2 _ _ _).1 | exact (hg.1 _).1 | (simp only [Int.toNat_natCast, upF_2] at *; omega)) (by first | omega | exact (hg.2 _ _ _).2 | exact (hg.1 _).2 | (simp only [Int.toNat_natCast, upF_2] at *; omega)) (by first | omega | (simp only [Int.toNat_natCast, upF_2] at *; omega)) ?_
    refine w_iconst rfl ?_
    refine w_iconst rfl ?_
    refine w_cvV rfl (by decide) (by first | omega | (simp only [Int.toNat_natCast, upF_2] at *; omega)) rfl RH_obj mt_112 (Nat.le_of_ble_eq_true rfl) (Nat.le_of_ble_eq_true rfl) (r_fails0 hb (by assumption) _) ?_
    refine w_ifeq_t rfl (by first | omega | exact (hg.2 _ _ _).1 | exact (hg.1 _).1 | (simp only [Int.toNat_natCast, upF_2] at *; omega)) (by first | omega | exact (hg.2 _ _ _).2 | exact (hg.1 _).2 | (simp only [Int.toNat_natCast, upF_2] at *; omega)) (by first | omega | (simp only [Int.toNat_natCast, upF_2] at *; omega)) ?_
    refine w_aload_n rfl rfl ?_
    refine w_iload_n rfl rfl ?_
    refine w_iload_n rfl rfl ?_
    refine w_cvV rfl (by decide) (by first | omega | (simp only [Int.toNat_natCast, upF_2] at *; omega)) rfl RH_obj mt_116 (Nat.le_of_ble_eq_true rfl) (Nat.le_of_ble_eq_true rfl) (r_named hb (by assumption) _ (by first | omega | exact (hg.2 _ _ _).1 | exact (hg.1 _).1 | (simp only [Int.toNat_natCast, upF_2] at *; omega)) (by first | omega | exact (hg.2 _ _ _).2 | exact (hg.1 _).2 | (simp only [Int.toNat_natCast, upF_2] at *; omega)) (by first | omega | exact (hg.2 _ _ _).1 | exact (hg.1 _).1 | (simp only [Int.toNat_natCast, upF_2] at *; omega)) (by first | omega | exact (hg.2 _ _ _).2 | exact (hg.1 _).2 | (simp only [Int.toNat_natCast, upF_2] at *; omega))) ?_
    refine w_istore rfl (by decide) ?_
    refine w_aload_n rfl rfl ?_
    refine w_iload rfl rfl ?_
    refine w_iflt_t rfl (by first | omega | exact (hg.2 _ _ _).1 | exact (hg.1 _).1 | (simp only [Int.toNat_natCast, upF_2] at *; omega)) (by first | omega | exact (hg.2 _ _ _).2 | exact (hg.1 _).2 | (simp only [Int.toNat_natCast, upF_2] at *; omega)) (by first | omega | (simp only [Int.toNat_natCast, upF_2] at *; omega)) ?_
    refine w_iconst rfl ?_
    refine w_iconst rfl ?_
    refine w_cvV rfl (by decide) (by first | omega | (simp only [Int.toNat_natCast, upF_2] at *; omega)) rfl RH_obj mt_112 (Nat.le_of_ble_eq_true rfl) (Nat.le_of_ble_eq_true rfl) (r_fails0 hb (by assumption) _) ?_
    rw [upF_upF]
    refine w_ifeq_t rfl (by first | omega | exact (hg.2 _ _ _).1 | exact (hg.1 _).1 | (simp only [Int.toNat_natCast, upF_2] at *; omega)) (by first | omega | exact (hg.2 _ _ _).2 | exact (hg.1 _).2 | (simp only [Int.toNat_natCast, upF_2] at *; omega)) (by first | omega | (simp only [Int.toNat_natCast, upF_2] at *; omega)) ?_
    refine w_iload_n rfl rfl ?_
    refine w_istore rfl (by decide) ?_
    refine r_move_l (ρ := upF ρ 0 0) hb hg0 d hn.1 hn.2.1 t p (fun s h1 => by rw [e0]; exact hs s h1) (by rw [e0]; omega) (by rw [e0]; omega) (by rw [e0]; omega) ?_
    rw [e0]
    rw [ht]
    refine w_aload_n rfl rfl ?_
    refine w_iload rfl rfl ?_
    refine w_iload_n rfl rfl ?_
    refine w_icne_f rfl (by first | omega | exact (hg.2 _ _ _).1 | exact (hg.1 _).1 | (simp only [Int.toNat_natCast, upF_2] at *; omega)) (by first | omega | exact (hg.2 _ _ _).2 | exact (hg.1 _).2 | (simp only [Int.toNat_natCast, upF_2] at *; omega)) (by first | omega | exact (hg.2 _ _ _).1 | exact (hg.1 _).1 | (simp only [Int.toNat_natCast, upF_2] at *; omega)) (by first | omega | exact (hg.2 _ _ _).2 | exact (hg.1 _).2 | (simp only [Int.toNat_natCast, upF_2] at *; omega)) (by first | omega | (simp only [Int.toNat_natCast, upF_2] at *; omega)) ?_
    refine w_iconst rfl ?_
    refine w_goto rfl ?_
    refine w_iconst rfl ?_
    refine w_cvV rfl (by decide) (by first | omega | (simp only [Int.toNat_natCast, upF_2] at *; omega)) rfl RH_obj mt_112 (Nat.le_of_ble_eq_true rfl) (Nat.le_of_ble_eq_true rfl) (r_fails1 hb (by assumption) _) ?_
    rw [upF_upF]
    refine w_ifeq_f rfl (by first | omega | exact (hg.2 _ _ _).1 | exact (hg.1 _).1 | (simp only [Int.toNat_natCast, upF_2] at *; omega)) (by first | omega | exact (hg.2 _ _ _).2 | exact (hg.1 _).2 | (simp only [Int.toNat_natCast, upF_2] at *; omega)) (by first | omega | (simp only [Int.toNat_natCast, upF_2] at *; omega)) ?_
    refine w_return rfl rfl ?_
    exact ⟨rfl, rfl⟩
  refine w_aload_n rfl rfl ?_
  refine w_iload_n rfl rfl ?_
  refine w_iconst rfl ?_
  refine w_iclt_f rfl (by first | omega | exact (hg.2 _ _ _).1 | exact (hg.1 _).1 | (simp only [Int.toNat_natCast, upF_2] at *; omega)) (by first | omega | exact (hg.2 _ _ _).2 | exact (hg.1 _).2 | (simp only [Int.toNat_natCast, upF_2] at *; omega)) (by first | omega | exact (hg.2 _ _ _).1 | exact (hg.1 _).1 | (simp only [Int.toNat_natCast, upF_2] at *; omega)) (by first | omega | exact (hg.2 _ _ _).2 | exact (hg.1 _).2 | (simp only [Int.toNat_natCast, upF_2] at *; omega)) (by first | omega | (simp only [Int.toNat_natCast, upF_2] at *; omega)) ?_
  refine w_iload_n rfl rfl ?_
  refine w_sipush rfl rfl ?_
  refine w_icge_f rfl (by first | omega | exact (hg.2 _ _ _).1 | exact (hg.1 _).1 | (simp only [Int.toNat_natCast, upF_2] at *; omega)) (by first | omega | exact (hg.2 _ _ _).2 | exact (hg.1 _).2 | (simp only [Int.toNat_natCast, upF_2] at *; omega)) (by first | omega | exact (hg.2 _ _ _).1 | exact (hg.1 _).1 | (simp only [Int.toNat_natCast, upF_2] at *; omega)) (by first | omega | exact (hg.2 _ _ _).2 | exact (hg.1 _).2 | (simp only [Int.toNat_natCast, upF_2] at *; omega)) (by first | omega | (simp only [Int.toNat_natCast, upF_2] at *; omega)) ?_
  refine w_aload_n rfl rfl ?_
  refine m_get rfl rfl ?_
  refine w_iload_n rfl rfl ?_
  refine m_iaload rfl hb rl_1 (by first | omega | (simp only [Int.toNat_natCast, upF_2] at *; omega)) (by first | omega | (simp only [Int.toNat_natCast, upF_2] at *; omega)) ?_
  refine w_ifeq_f rfl (by first | omega | exact (hg.2 _ _ _).1 | exact (hg.1 _).1 | (simp only [Int.toNat_natCast, upF_2] at *; omega)) (by first | omega | exact (hg.2 _ _ _).2 | exact (hg.1 _).2 | (simp only [Int.toNat_natCast, upF_2] at *; omega)) (by first | omega | (simp only [Int.toNat_natCast, upF_2] at *; omega)) ?_
  refine w_aload_n rfl rfl ?_
  refine w_iload_n rfl rfl ?_
  refine w_iconst rfl ?_
  refine w_cvV rfl (by decide) (by first | omega | (simp only [Int.toNat_natCast, upF_2] at *; omega)) rfl RH_obj mt_115 (Nat.le_of_ble_eq_true rfl) (Nat.le_of_ble_eq_true rfl) (r_is1 hb (by assumption) _ hp (by decide) (by decide)) ?_
  refine w_ifeq_f rfl (by first | omega | exact (hg.2 _ _ _).1 | exact (hg.1 _).1 | (simp only [Int.toNat_natCast, upF_2] at *; omega)) (by first | omega | exact (hg.2 _ _ _).2 | exact (hg.1 _).2 | (simp only [Int.toNat_natCast, upF_2] at *; omega)) (by first | omega | (simp only [Int.toNat_natCast, upF_2] at *; omega)) ?_
  refine w_iload_n rfl rfl ?_
  refine w_iconst rfl ?_
  refine w_iclt_f rfl (by first | omega | exact (hg.2 _ _ _).1 | exact (hg.1 _).1 | (simp only [Int.toNat_natCast, upF_2] at *; omega)) (by first | omega | exact (hg.2 _ _ _).2 | exact (hg.1 _).2 | (simp only [Int.toNat_natCast, upF_2] at *; omega)) (by first | omega | exact (hg.2 _ _ _).1 | exact (hg.1 _).1 | (simp only [Int.toNat_natCast, upF_2] at *; omega)) (by first | omega | exact (hg.2 _ _ _).2 | exact (hg.1 _).2 | (simp only [Int.toNat_natCast, upF_2] at *; omega)) (by first | omega | (simp only [Int.toNat_natCast, upF_2] at *; omega)) ?_
  refine w_iload_n rfl rfl ?_
  refine w_sipush rfl rfl ?_
  refine w_icle_t rfl (by first | omega | exact (hg.2 _ _ _).1 | exact (hg.1 _).1 | (simp only [Int.toNat_natCast, upF_2] at *; omega)) (by first | omega | exact (hg.2 _ _ _).2 | exact (hg.1 _).2 | (simp only [Int.toNat_natCast, upF_2] at *; omega)) (by first | omega | exact (hg.2 _ _ _).1 | exact (hg.1 _).1 | (simp only [Int.toNat_natCast, upF_2] at *; omega)) (by first | omega | exact (hg.2 _ _ _).2 | exact (hg.1 _).2 | (simp only [Int.toNat_natCast, upF_2] at *; omega)) (by first | omega | (simp only [Int.toNat_natCast, upF_2] at *; omega)) ?_
  refine w_iconst rfl ?_
  refine w_iconst rfl ?_
  refine w_cvV rfl (by decide) (by first | omega | (simp only [Int.toNat_natCast, upF_2] at *; omega)) rfl RH_obj mt_112 (Nat.le_of_ble_eq_true rfl) (Nat.le_of_ble_eq_true rfl) (r_fails0 hb (by assumption) _) ?_
  refine w_ifeq_t rfl (by first | omega | exact (hg.2 _ _ _).1 | exact (hg.1 _).1 | (simp only [Int.toNat_natCast, upF_2] at *; omega)) (by first | omega | exact (hg.2 _ _ _).2 | exact (hg.1 _).2 | (simp only [Int.toNat_natCast, upF_2] at *; omega)) (by first | omega | (simp only [Int.toNat_natCast, upF_2] at *; omega)) ?_
  refine w_aload_n rfl rfl ?_
  refine w_iload_n rfl rfl ?_
  refine w_iload_n rfl rfl ?_
  refine w_cvV rfl (by decide) (by first | omega | (simp only [Int.toNat_natCast, upF_2] at *; omega)) rfl RH_obj mt_116 (Nat.le_of_ble_eq_true rfl) (Nat.le_of_ble_eq_true rfl) (r_named hb (by assumption) _ (by first | omega | exact (hg.2 _ _ _).1 | exact (hg.1 _).1 | (simp only [Int.toNat_natCast, upF_2] at *; omega)) (by first | omega | exact (hg.2 _ _ _).2 | exact (hg.1 _).2 | (simp only [Int.toNat_natCast, upF_2] at *; omega)) (by first | omega | exact (hg.2 _ _ _).1 | exact (hg.1 _).1 | (simp only [Int.toNat_natCast, upF_2] at *; omega)) (by first | omega | exact (hg.2 _ _ _).2 | exact (hg.1 _).2 | (simp only [Int.toNat_natCast, upF_2] at *; omega))) ?_
  refine w_istore rfl (by decide) ?_
  refine w_aload_n rfl rfl ?_
  refine w_iload rfl rfl ?_
  refine w_iflt_f rfl (by first | omega | exact (hg.2 _ _ _).1 | exact (hg.1 _).1 | (simp only [Int.toNat_natCast, upF_2] at *; omega)) (by first | omega | exact (hg.2 _ _ _).2 | exact (hg.1 _).2 | (simp only [Int.toNat_natCast, upF_2] at *; omega)) (by first | omega | (simp only [Int.toNat_natCast, upF_2] at *; omega)) ?_
  refine w_iload rfl rfl ?_
  refine w_iload_n rfl rfl ?_
  refine w_iceq_t rfl (by first | omega | exact (hg.2 _ _ _).1 | exact (hg.1 _).1 | (simp only [Int.toNat_natCast, upF_2] at *; omega)) (by first | omega | exact (hg.2 _ _ _).2 | exact (hg.1 _).2 | (simp only [Int.toNat_natCast, upF_2] at *; omega)) (by first | omega | exact (hg.2 _ _ _).1 | exact (hg.1 _).1 | (simp only [Int.toNat_natCast, upF_2] at *; omega)) (by first | omega | exact (hg.2 _ _ _).2 | exact (hg.1 _).2 | (simp only [Int.toNat_natCast, upF_2] at *; omega)) (by first | omega | (simp only [Int.toNat_natCast, upF_2] at *; omega)) ?_
  refine w_iconst rfl ?_
  refine w_iconst rfl ?_
  refine w_cvV rfl (by decide) (by first | omega | (simp only [Int.toNat_natCast, upF_2] at *; omega)) rfl RH_obj mt_112 (Nat.le_of_ble_eq_true rfl) (Nat.le_of_ble_eq_true rfl) (r_fails0 hb (by assumption) _) ?_
  rw [upF_upF]
  refine w_ifeq_t rfl (by first | omega | exact (hg.2 _ _ _).1 | exact (hg.1 _).1 | (simp only [Int.toNat_natCast, upF_2] at *; omega)) (by first | omega | exact (hg.2 _ _ _).2 | exact (hg.1 _).2 | (simp only [Int.toNat_natCast, upF_2] at *; omega)) (by first | omega | (simp only [Int.toNat_natCast, upF_2] at *; omega)) ?_
  refine w_iload_n rfl rfl ?_
  refine w_istore rfl (by decide) ?_
  refine r_move_l (ρ := upF ρ 0 0) hb hg0 d hn.1 hn.2.1 t p (fun s h1 => by rw [e0]; exact hs s h1) (by rw [e0]; omega) (by rw [e0]; omega) (by rw [e0]; omega) ?_
  rw [e0]
  rw [ht]
  refine w_aload_n rfl rfl ?_
  refine w_iload rfl rfl ?_
  refine w_iload_n rfl rfl ?_
  refine w_icne_f rfl (by first | omega | exact (hg.2 _ _ _).1 | exact (hg.1 _).1 | (simp only [Int.toNat_natCast, upF_2] at *; omega)) (by first | omega | exact (hg.2 _ _ _).2 | exact (hg.1 _).2 | (simp only [Int.toNat_natCast, upF_2] at *; omega)) (by first | omega | exact (hg.2 _ _ _).1 | exact (hg.1 _).1 | (simp only [Int.toNat_natCast, upF_2] at *; omega)) (by first | omega | exact (hg.2 _ _ _).2 | exact (hg.1 _).2 | (simp only [Int.toNat_natCast, upF_2] at *; omega)) (by first | omega | (simp only [Int.toNat_natCast, upF_2] at *; omega)) ?_
  refine w_iconst rfl ?_
  refine w_goto rfl ?_
  refine w_iconst rfl ?_
  refine w_cvV rfl (by decide) (by first | omega | (simp only [Int.toNat_natCast, upF_2] at *; omega)) rfl RH_obj mt_112 (Nat.le_of_ble_eq_true rfl) (Nat.le_of_ble_eq_true rfl) (r_fails1 hb (by assumption) _) ?_
  rw [upF_upF]
  refine w_ifeq_f rfl (by first | omega | exact (hg.2 _ _ _).1 | exact (hg.1 _).1 | (simp only [Int.toNat_natCast, upF_2] at *; omega)) (by first | omega | exact (hg.2 _ _ _).2 | exact (hg.1 _).2 | (simp only [Int.toNat_natCast, upF_2] at *; omega)) (by first | omega | (simp only [Int.toNat_natCast, upF_2] at *; omega)) ?_
  refine w_return rfl rfl ?_
  exact ⟨rfl, rfl⟩
def rMove (ρ : RS) (n p : Nat) (c : Int) : RS := upA (upA (upA (upA (upA (upF (upF ρ 0 0) 7 (ρ.1 7 + 1)) 5 0 (ρ.2 2 0 n).toNat (ρ.1 7 + 1)) 5 0 p (ρ.1 7 + 1)) 5 0 n (ρ.1 7 + 1)) 2 0 n p) 3 0 n c
theorem r_move (hb : b < m0) (hg : Rg ρ) (d : Nat) (hd : 1 ≤ d) {n p c : Int} (n1 : -2147483648 ≤ n) (n2 : n ≤ 2147483647) (p1 : -2147483648 ≤ p) (p2 : p ≤ 2147483647) (c1 : -2147483648 ≤ c) (c2 : c ≤ 2147483647) (hn : 1 ≤ n ∧ n < 256 ∧ ρ.2 1 0 n.toNat ≠ 0) (hp : 0 ≤ p ∧ p < 256 ∧ ρ.2 1 0 p.toNat = 2) (q1 : 1 ≤ c) (q2 : c ≤ 30000) (q3 : rNamed ρ p c < 0 ∨ rNamed ρ p c = n) {t : Nat} (hs : ∀ s, s < t → 0 < upN ρ s p ∧ upN ρ s p < 256 ∧ upN ρ s p ≠ n) (ht : upN ρ t p = 0) (g1 : 0 ≤ ρ.2 2 0 n.toNat) (g2 : ρ.2 2 0 n.toNat < 256) : Wp b L xs d mi_119 0 (ent (mL mi_119) [.ref m0, vI n, vI p, vI c]) [] (RH m0 h ρ) (Rn (RH m0 h (rMove ρ n.toNat p.toNat c))) := by
  have hg0 : Rg (upF ρ 0 0) := hg.upF 0 (by decide) (by decide)
  have n1 : rNamed (upF ρ 0 0) p c = rNamed ρ p c := rfl
  have n2 := rNamed_lo ρ p c
  have n3 := rNamed_hi ρ p c
  have e0 : ∀ (t : Nat) (p : Int), upN (upF ρ 0 0) t p = upN ρ t p := by
    intro t
    induction t with
    | zero => intro p; rfl
    | succ t ih => intro p; exact ih _
  have ep : ((p.toNat : Nat) : Int) = p := by omega
  unfold rMove
  rw [ep]
  by_cases q5 : rNamed ρ p c < 0
  · refine w_aload_n rfl rfl ?_
    refine w_iload_n rfl rfl ?_
    refine w_iconst rfl ?_
    refine w_iclt_f rfl (by first | omega | exact (hg.2 _ _ _).1 | exact (hg.1 _).1 | (simp only [Int.toNat_natCast, upF_2] at *; omega)) (by first | omega | exact (hg.2 _ _ _).2 | exact (hg.1 _).2 | (simp only [Int.toNat_natCast, upF_2] at *; omega)) (by first | omega | exact (hg.2 _ _ _).1 | exact (hg.1 _).1 | (simp only [Int.toNat_natCast, upF_2] at *; omega)) (by first | omega | exact (hg.2 _ _ _).2 | exact (hg.1 _).2 | (simp only [Int.toNat_natCast, upF_2] at *; omega)) (by first | omega | (simp only [Int.toNat_natCast, upF_2] at *; omega)) ?_
    refine w_iload_n rfl rfl ?_
    refine w_sipush rfl rfl ?_
    refine w_icge_f rfl (by first | omega | exact (hg.2 _ _ _).1 | exact (hg.1 _).1 | (simp only [Int.toNat_natCast, upF_2] at *; omega)) (by first | omega | exact (hg.2 _ _ _).2 | exact (hg.1 _).2 | (simp only [Int.toNat_natCast, upF_2] at *; omega)) (by first | omega | exact (hg.2 _ _ _).1 | exact (hg.1 _).1 | (simp only [Int.toNat_natCast, upF_2] at *; omega)) (by first | omega | exact (hg.2 _ _ _).2 | exact (hg.1 _).2 | (simp only [Int.toNat_natCast, upF_2] at *; omega)) (by first | omega | (simp only [Int.toNat_natCast, upF_2] at *; omega)) ?_
    refine w_aload_n rfl rfl ?_
    refine m_get rfl rfl ?_
    refine w_iload_n rfl rfl ?_
    refine m_iaload rfl hb rl_1 (by first | omega | (simp only [Int.toNat_natCast, upF_2] at *; omega)) (by first | omega | (simp only [Int.toNat_natCast, upF_2] at *; omega)) ?_
    refine w_ifeq_f rfl (by first | omega | exact (hg.2 _ _ _).1 | exact (hg.1 _).1 | (simp only [Int.toNat_natCast, upF_2] at *; omega)) (by first | omega | exact (hg.2 _ _ _).2 | exact (hg.1 _).2 | (simp only [Int.toNat_natCast, upF_2] at *; omega)) (by first | omega | (simp only [Int.toNat_natCast, upF_2] at *; omega)) ?_
    refine w_aload_n rfl rfl ?_
    refine w_iload_n rfl rfl ?_
    refine w_iconst rfl ?_
    refine w_cvV rfl (by decide) (by first | omega | (simp only [Int.toNat_natCast, upF_2] at *; omega)) rfl RH_obj mt_115 (Nat.le_of_ble_eq_true rfl) (Nat.le_of_ble_eq_true rfl) (r_is1 hb (by assumption) _ hp (by decide) (by decide)) ?_
    refine w_ifeq_f rfl (by first | omega | exact (hg.2 _ _ _).1 | exact (hg.1 _).1 | (simp only [Int.toNat_natCast, upF_2] at *; omega)) (by first | omega | exact (hg.2 _ _ _).2 | exact (hg.1 _).2 | (simp only [Int.toNat_natCast, upF_2] at *; omega)) (by first | omega | (simp only [Int.toNat_natCast, upF_2] at *; omega)) ?_
    refine w_iload_n rfl rfl ?_
    refine w_iconst rfl ?_
    refine w_iclt_f rfl (by first | omega | exact (hg.2 _ _ _).1 | exact (hg.1 _).1 | (simp only [Int.toNat_natCast, upF_2] at *; omega)) (by first | omega | exact (hg.2 _ _ _).2 | exact (hg.1 _).2 | (simp only [Int.toNat_natCast, upF_2] at *; omega)) (by first | omega | exact (hg.2 _ _ _).1 | exact (hg.1 _).1 | (simp only [Int.toNat_natCast, upF_2] at *; omega)) (by first | omega | exact (hg.2 _ _ _).2 | exact (hg.1 _).2 | (simp only [Int.toNat_natCast, upF_2] at *; omega)) (by first | omega | (simp only [Int.toNat_natCast, upF_2] at *; omega)) ?_
    refine w_iload_n rfl rfl ?_
    refine w_sipush rfl rfl ?_
    refine w_icle_t rfl (by first | omega | exact (hg.2 _ _ _).1 | exact (hg.1 _).1 | (simp only [Int.toNat_natCast, upF_2] at *; omega)) (by first | omega | exact (hg.2 _ _ _).2 | exact (hg.1 _).2 | (simp only [Int.toNat_natCast, upF_2] at *; omega)) (by first | omega | exact (hg.2 _ _ _).1 | exact (hg.1 _).1 | (simp only [Int.toNat_natCast, upF_2] at *; omega)) (by first | omega | exact (hg.2 _ _ _).2 | exact (hg.1 _).2 | (simp only [Int.toNat_natCast, upF_2] at *; omega)) (by first | omega | (simp only [Int.toNat_natCast, upF_2] at *; omega)) ?_
    refine w_iconst rfl ?_
    refine w_iconst rfl ?_
    refine w_cvV rfl (by decide) (by first | omega | (simp only [Int.toNat_natCast, upF_2] at *; omega)) rfl RH_obj mt_112 (Nat.le_of_ble_eq_true rfl) (Nat.le_of_ble_eq_true rfl) (r_fails0 hb (by assumption) _) ?_
    refine w_ifeq_t rfl (by first | omega | exact (hg.2 _ _ _).1 | exact (hg.1 _).1 | (simp only [Int.toNat_natCast, upF_2] at *; omega)) (by first | omega | exact (hg.2 _ _ _).2 | exact (hg.1 _).2 | (simp only [Int.toNat_natCast, upF_2] at *; omega)) (by first | omega | (simp only [Int.toNat_natCast, upF_2] at *; omega)) ?_
    refine w_aload_n rfl rfl ?_
    refine w_iload_n rfl rfl ?_
    refine w_iload_n rfl rfl ?_
    refine w_cvV rfl (by decide) (by first | omega | (simp only [Int.toNat_natCast, upF_2] at *; omega)) rfl RH_obj mt_116 (Nat.le_of_ble_eq_true rfl) (Nat.le_of_ble_eq_true rfl) (r_named hb (by assumption) _ (by first | omega | exact (hg.2 _ _ _).1 | exact (hg.1 _).1 | (simp only [Int.toNat_natCast, upF_2] at *; omega)) (by first | omega | exact (hg.2 _ _ _).2 | exact (hg.1 _).2 | (simp only [Int.toNat_natCast, upF_2] at *; omega)) (by first | omega | exact (hg.2 _ _ _).1 | exact (hg.1 _).1 | (simp only [Int.toNat_natCast, upF_2] at *; omega)) (by first | omega | exact (hg.2 _ _ _).2 | exact (hg.1 _).2 | (simp only [Int.toNat_natCast, upF_2] at *; omega))) ?_
    refine w_istore rfl (by decide) ?_
    refine w_aload_n rfl rfl ?_
    refine w_iload rfl rfl ?_
    refine w_iflt_t rfl (by first | omega | exact (hg.2 _ _ _).1 | exact (hg.1 _).1 | (simp only [Int.toNat_natCast, upF_2] at *; omega)) (by first | omega | exact (hg.2 _ _ _).2 | exact (hg.1 _).2 | (simp only [Int.toNat_natCast, upF_2] at *; omega)) (by first | omega | (simp only [Int.toNat_natCast, upF_2] at *; omega)) ?_
    refine w_iconst rfl ?_
    refine w_iconst rfl ?_
    refine w_cvV rfl (by decide) (by first | omega | (simp only [Int.toNat_natCast, upF_2] at *; omega)) rfl RH_obj mt_112 (Nat.le_of_ble_eq_true rfl) (Nat.le_of_ble_eq_true rfl) (r_fails0 hb (by assumption) _) ?_
    rw [upF_upF]
    refine w_ifeq_t rfl (by first | omega | exact (hg.2 _ _ _).1 | exact (hg.1 _).1 | (simp only [Int.toNat_natCast, upF_2] at *; omega)) (by first | omega | exact (hg.2 _ _ _).2 | exact (hg.1 _).2 | (simp only [Int.toNat_natCast, upF_2] at *; omega)) (by first | omega | (simp only [Int.toNat_natCast, upF_2] at *; omega)) ?_
    refine w_iload_n rfl rfl ?_
    refine w_istore rfl (by decide) ?_
    refine r_move_l (ρ := upF ρ 0 0) hb hg0 d hn.1 hn.2.1 t p (fun s h1 => by rw [e0]; exact hs s h1) (by rw [e0]; omega) (by rw [e0]; omega) (by rw [e0]; omega) ?_
    rw [e0]
    rw [ht]
    refine w_aload_n rfl rfl ?_
    refine w_iload rfl rfl ?_
    refine w_iload_n rfl rfl ?_
    refine w_icne_t rfl (by first | omega | exact (hg.2 _ _ _).1 | exact (hg.1 _).1 | (simp only [Int.toNat_natCast, upF_2] at *; omega)) (by first | omega | exact (hg.2 _ _ _).2 | exact (hg.1 _).2 | (simp only [Int.toNat_natCast, upF_2] at *; omega)) (by first | omega | exact (hg.2 _ _ _).1 | exact (hg.1 _).1 | (simp only [Int.toNat_natCast, upF_2] at *; omega)) (by first | omega | exact (hg.2 _ _ _).2 | exact (hg.1 _).2 | (simp only [Int.toNat_natCast, upF_2] at *; omega)) (by first | omega | exact g1 | exact g2 | (simp only [Int.toNat_natCast, upF_2] at *; omega)) ?_
    refine w_iconst rfl ?_
    refine w_iconst rfl ?_
    refine w_cvV rfl (by decide) (by first | omega | exact g1 | exact g2 | (simp only [Int.toNat_natCast, upF_2] at *; omega)) rfl RH_obj mt_112 (Nat.le_of_ble_eq_true rfl) (Nat.le_of_ble_eq_true rfl) (r_fails0 hb (by assumption) _) ?_
    rw [upF_upF]
    refine w_ifeq_t rfl (by first | omega | exact (hg.2 _ _ _).1 | exact (hg.1 _).1 | (simp only [Int.toNat_natCast, upF_2] at *; omega)) (by first | omega | exact (hg.2 _ _ _).2 | exact (hg.1 _).2 | (simp only [Int.toNat_natCast, upF_2] at *; omega)) (by first | omega | exact g1 | exact g2 | (simp only [Int.toNat_natCast, upF_2] at *; omega)) ?_
    refine w_aload_n rfl rfl ?_
    refine w_dupR rfl ?_
    refine m_get rfl rfl ?_
    refine w_iconst rfl ?_
    refine w_iadd rfl ?_
    refine m_put rfl rfl rfl rfl ?_
    refine w_aload_n rfl rfl ?_
    refine m_get rfl rfl ?_
    refine w_aload_n rfl rfl ?_
    refine m_get rfl rfl ?_
    refine w_iload_n rfl rfl ?_
    refine m_iaload rfl hb rl_2 (by first | omega | exact g1 | exact g2 | (simp only [Int.toNat_natCast, upF_2] at *; omega)) (by first | omega | exact g1 | exact g2 | (simp only [Int.toNat_natCast, upF_2] at *; omega)) ?_
    refine w_aload_n rfl rfl ?_
    refine m_get rfl rfl ?_
    refine m_iastore rfl rl_5 (by first | omega | exact g1 | exact g2 | (simp only [Int.toNat_natCast, upF_2] at *; omega)) (by first | omega | exact g1 | exact g2 | (simp only [Int.toNat_natCast, upF_2] at *; omega)) ?_
    refine w_aload_n rfl rfl ?_
    refine m_get rfl rfl ?_
    refine w_iload_n rfl rfl ?_
    refine w_aload_n rfl rfl ?_
    refine m_get rfl rfl ?_
    refine m_iastore rfl rl_5 (by first | omega | exact g1 | exact g2 | (simp only [Int.toNat_natCast, upF_2] at *; omega)) (by first | omega | exact g1 | exact g2 | (simp only [Int.toNat_natCast, upF_2] at *; omega)) ?_
    refine w_aload_n rfl rfl ?_
    refine m_get rfl rfl ?_
    refine w_iload_n rfl rfl ?_
    refine w_aload_n rfl rfl ?_
    refine m_get rfl rfl ?_
    refine m_iastore rfl rl_5 (by first | omega | exact g1 | exact g2 | (simp only [Int.toNat_natCast, upF_2] at *; omega)) (by first | omega | exact g1 | exact g2 | (simp only [Int.toNat_natCast, upF_2] at *; omega)) ?_
    refine w_aload_n rfl rfl ?_
    refine m_get rfl rfl ?_
    refine w_iload_n rfl rfl ?_
    refine w_iload_n rfl rfl ?_
    refine m_iastore rfl rl_2 (by first | omega | exact g1 | exact g2 | (simp only [Int.toNat_natCast, upF_2] at *; omega)) (by first | omega | exact g1 | exact g2 | (simp only [Int.toNat_natCast, upF_2] at *; omega)) ?_
    refine w_aload_n rfl rfl ?_
    refine m_get rfl rfl ?_
    refine w_iload_n rfl rfl ?_
    refine w_iload_n rfl rfl ?_
    refine m_iastore rfl rl_3 (by first | omega | exact g1 | exact g2 | (simp only [Int.toNat_natCast, upF_2] at *; omega)) (by first | omega | exact g1 | exact g2 | (simp only [Int.toNat_natCast, upF_2] at *; omega)) ?_
    refine w_return rfl rfl ?_
    exact ⟨rfl, rfl⟩
  refine w_aload_n rfl rfl ?_
  refine w_iload_n rfl rfl ?_
  refine w_iconst rfl ?_
  refine w_iclt_f rfl (by first | omega | exact (hg.2 _ _ _).1 | exact (hg.1 _).1 | (simp only [Int.toNat_natCast, upF_2] at *; omega)) (by first | omega | exact (hg.2 _ _ _).2 | exact (hg.1 _).2 | (simp only [Int.toNat_natCast, upF_2] at *; omega)) (by first | omega | exact (hg.2 _ _ _).1 | exact (hg.1 _).1 | (simp only [Int.toNat_natCast, upF_2] at *; omega)) (by first | omega | exact (hg.2 _ _ _).2 | exact (hg.1 _).2 | (simp only [Int.toNat_natCast, upF_2] at *; omega)) (by first | omega | (simp only [Int.toNat_natCast, upF_2] at *; omega)) ?_
  refine w_iload_n rfl rfl ?_
  refine w_sipush rfl rfl ?_
  refine w_icge_f rfl (by first | omega | exact (hg.2 _ _ _).1 | exact (hg.1 _).1 | (simp only [Int.toNat_natCast, upF_2] at *; omega)) (by first | omega | exact (hg.2 _ _ _).2 | exact (hg.1 _).2 | (simp only [Int.toNat_natCast, upF_2] at *; omega)) (by first | omega | exact (hg.2 _ _ _).1 | exact (hg.1 _).1 | (simp only [Int.toNat_natCast, upF_2] at *; omega)) (by first | omega | exact (hg.2 _ _ _).2 | exact (hg.1 _).2 | (simp only [Int.toNat_natCast, upF_2] at *; omega)) (by first | omega | (simp only [Int.toNat_natCast, upF_2] at *; omega)) ?_
  refine w_aload_n rfl rfl ?_
  refine m_get rfl rfl ?_
  refine w_iload_n rfl rfl ?_
  refine m_iaload rfl hb rl_1 (by first | omega | (simp only [Int.toNat_natCast, upF_2] at *; omega)) (by first | omega | (simp only [Int.toNat_natCast, upF_2] at *; omega)) ?_
  refine w_ifeq_f rfl (by first | omega | exact (hg.2 _ _ _).1 | exact (hg.1 _).1 | (simp only [Int.toNat_natCast, upF_2] at *; omega)) (by first | omega | exact (hg.2 _ _ _).2 | exact (hg.1 _).2 | (simp only [Int.toNat_natCast, upF_2] at *; omega)) (by first | omega | (simp only [Int.toNat_natCast, upF_2] at *; omega)) ?_
  refine w_aload_n rfl rfl ?_
  refine w_iload_n rfl rfl ?_
  refine w_iconst rfl ?_
  refine w_cvV rfl (by decide) (by first | omega | (simp only [Int.toNat_natCast, upF_2] at *; omega)) rfl RH_obj mt_115 (Nat.le_of_ble_eq_true rfl) (Nat.le_of_ble_eq_true rfl) (r_is1 hb (by assumption) _ hp (by decide) (by decide)) ?_
  refine w_ifeq_f rfl (by first | omega | exact (hg.2 _ _ _).1 | exact (hg.1 _).1 | (simp only [Int.toNat_natCast, upF_2] at *; omega)) (by first | omega | exact (hg.2 _ _ _).2 | exact (hg.1 _).2 | (simp only [Int.toNat_natCast, upF_2] at *; omega)) (by first | omega | (simp only [Int.toNat_natCast, upF_2] at *; omega)) ?_
  refine w_iload_n rfl rfl ?_
  refine w_iconst rfl ?_
  refine w_iclt_f rfl (by first | omega | exact (hg.2 _ _ _).1 | exact (hg.1 _).1 | (simp only [Int.toNat_natCast, upF_2] at *; omega)) (by first | omega | exact (hg.2 _ _ _).2 | exact (hg.1 _).2 | (simp only [Int.toNat_natCast, upF_2] at *; omega)) (by first | omega | exact (hg.2 _ _ _).1 | exact (hg.1 _).1 | (simp only [Int.toNat_natCast, upF_2] at *; omega)) (by first | omega | exact (hg.2 _ _ _).2 | exact (hg.1 _).2 | (simp only [Int.toNat_natCast, upF_2] at *; omega)) (by first | omega | (simp only [Int.toNat_natCast, upF_2] at *; omega)) ?_
  refine w_iload_n rfl rfl ?_
  refine w_sipush rfl rfl ?_
  refine w_icle_t rfl (by first | omega | exact (hg.2 _ _ _).1 | exact (hg.1 _).1 | (simp only [Int.toNat_natCast, upF_2] at *; omega)) (by first | omega | exact (hg.2 _ _ _).2 | exact (hg.1 _).2 | (simp only [Int.toNat_natCast, upF_2] at *; omega)) (by first | omega | exact (hg.2 _ _ _).1 | exact (hg.1 _).1 | (simp only [Int.toNat_natCast, upF_2] at *; omega)) (by first | omega | exact (hg.2 _ _ _).2 | exact (hg.1 _).2 | (simp only [Int.toNat_natCast, upF_2] at *; omega)) (by first | omega | (simp only [Int.toNat_natCast, upF_2] at *; omega)) ?_
  refine w_iconst rfl ?_
  refine w_iconst rfl ?_
  refine w_cvV rfl (by decide) (by first | omega | (simp only [Int.toNat_natCast, upF_2] at *; omega)) rfl RH_obj mt_112 (Nat.le_of_ble_eq_true rfl) (Nat.le_of_ble_eq_true rfl) (r_fails0 hb (by assumption) _) ?_
  refine w_ifeq_t rfl (by first | omega | exact (hg.2 _ _ _).1 | exact (hg.1 _).1 | (simp only [Int.toNat_natCast, upF_2] at *; omega)) (by first | omega | exact (hg.2 _ _ _).2 | exact (hg.1 _).2 | (simp only [Int.toNat_natCast, upF_2] at *; omega)) (by first | omega | (simp only [Int.toNat_natCast, upF_2] at *; omega)) ?_
  refine w_aload_n rfl rfl ?_
  refine w_iload_n rfl rfl ?_
  refine w_iload_n rfl rfl ?_
  refine w_cvV rfl (by decide) (by first | omega | (simp only [Int.toNat_natCast, upF_2] at *; omega)) rfl RH_obj mt_116 (Nat.le_of_ble_eq_true rfl) (Nat.le_of_ble_eq_true rfl) (r_named hb (by assumption) _ (by first | omega | exact (hg.2 _ _ _).1 | exact (hg.1 _).1 | (simp only [Int.toNat_natCast, upF_2] at *; omega)) (by first | omega | exact (hg.2 _ _ _).2 | exact (hg.1 _).2 | (simp only [Int.toNat_natCast, upF_2] at *; omega)) (by first | omega | exact (hg.2 _ _ _).1 | exact (hg.1 _).1 | (simp only [Int.toNat_natCast, upF_2] at *; omega)) (by first | omega | exact (hg.2 _ _ _).2 | exact (hg.1 _).2 | (simp only [Int.toNat_natCast, upF_2] at *; omega))) ?_
  refine w_istore rfl (by decide) ?_
  refine w_aload_n rfl rfl ?_
  refine w_iload rfl rfl ?_
  refine w_iflt_f rfl (by first | omega | exact (hg.2 _ _ _).1 | exact (hg.1 _).1 | (simp only [Int.toNat_natCast, upF_2] at *; omega)) (by first | omega | exact (hg.2 _ _ _).2 | exact (hg.1 _).2 | (simp only [Int.toNat_natCast, upF_2] at *; omega)) (by first | omega | (simp only [Int.toNat_natCast, upF_2] at *; omega)) ?_
  refine w_iload rfl rfl ?_
  refine w_iload_n rfl rfl ?_
  refine w_iceq_t rfl (by first | omega | exact (hg.2 _ _ _).1 | exact (hg.1 _).1 | (simp only [Int.toNat_natCast, upF_2] at *; omega)) (by first | omega | exact (hg.2 _ _ _).2 | exact (hg.1 _).2 | (simp only [Int.toNat_natCast, upF_2] at *; omega)) (by first | omega | exact (hg.2 _ _ _).1 | exact (hg.1 _).1 | (simp only [Int.toNat_natCast, upF_2] at *; omega)) (by first | omega | exact (hg.2 _ _ _).2 | exact (hg.1 _).2 | (simp only [Int.toNat_natCast, upF_2] at *; omega)) (by first | omega | (simp only [Int.toNat_natCast, upF_2] at *; omega)) ?_
  refine w_iconst rfl ?_
  refine w_iconst rfl ?_
  refine w_cvV rfl (by decide) (by first | omega | (simp only [Int.toNat_natCast, upF_2] at *; omega)) rfl RH_obj mt_112 (Nat.le_of_ble_eq_true rfl) (Nat.le_of_ble_eq_true rfl) (r_fails0 hb (by assumption) _) ?_
  rw [upF_upF]
  refine w_ifeq_t rfl (by first | omega | exact (hg.2 _ _ _).1 | exact (hg.1 _).1 | (simp only [Int.toNat_natCast, upF_2] at *; omega)) (by first | omega | exact (hg.2 _ _ _).2 | exact (hg.1 _).2 | (simp only [Int.toNat_natCast, upF_2] at *; omega)) (by first | omega | (simp only [Int.toNat_natCast, upF_2] at *; omega)) ?_
  refine w_iload_n rfl rfl ?_
  refine w_istore rfl (by decide) ?_
  refine r_move_l (ρ := upF ρ 0 0) hb hg0 d hn.1 hn.2.1 t p (fun s h1 => by rw [e0]; exact hs s h1) (by rw [e0]; omega) (by rw [e0]; omega) (by rw [e0]; omega) ?_
  rw [e0]
  rw [ht]
  refine w_aload_n rfl rfl ?_
  refine w_iload rfl rfl ?_
  refine w_iload_n rfl rfl ?_
  refine w_icne_t rfl (by first | omega | exact (hg.2 _ _ _).1 | exact (hg.1 _).1 | (simp only [Int.toNat_natCast, upF_2] at *; omega)) (by first | omega | exact (hg.2 _ _ _).2 | exact (hg.1 _).2 | (simp only [Int.toNat_natCast, upF_2] at *; omega)) (by first | omega | exact (hg.2 _ _ _).1 | exact (hg.1 _).1 | (simp only [Int.toNat_natCast, upF_2] at *; omega)) (by first | omega | exact (hg.2 _ _ _).2 | exact (hg.1 _).2 | (simp only [Int.toNat_natCast, upF_2] at *; omega)) (by first | omega | exact g1 | exact g2 | (simp only [Int.toNat_natCast, upF_2] at *; omega)) ?_
  refine w_iconst rfl ?_
  refine w_iconst rfl ?_
  refine w_cvV rfl (by decide) (by first | omega | exact g1 | exact g2 | (simp only [Int.toNat_natCast, upF_2] at *; omega)) rfl RH_obj mt_112 (Nat.le_of_ble_eq_true rfl) (Nat.le_of_ble_eq_true rfl) (r_fails0 hb (by assumption) _) ?_
  rw [upF_upF]
  refine w_ifeq_t rfl (by first | omega | exact (hg.2 _ _ _).1 | exact (hg.1 _).1 | (simp only [Int.toNat_natCast, upF_2] at *; omega)) (by first | omega | exact (hg.2 _ _ _).2 | exact (hg.1 _).2 | (simp only [Int.toNat_natCast, upF_2] at *; omega)) (by first | omega | exact g1 | exact g2 | (simp only [Int.toNat_natCast, upF_2] at *; omega)) ?_
  refine w_aload_n rfl rfl ?_
  refine w_dupR rfl ?_
  refine m_get rfl rfl ?_
  refine w_iconst rfl ?_
  refine w_iadd rfl ?_
  refine m_put rfl rfl rfl rfl ?_
  refine w_aload_n rfl rfl ?_
  refine m_get rfl rfl ?_
  refine w_aload_n rfl rfl ?_
  refine m_get rfl rfl ?_
  refine w_iload_n rfl rfl ?_
  refine m_iaload rfl hb rl_2 (by first | omega | exact g1 | exact g2 | (simp only [Int.toNat_natCast, upF_2] at *; omega)) (by first | omega | exact g1 | exact g2 | (simp only [Int.toNat_natCast, upF_2] at *; omega)) ?_
  refine w_aload_n rfl rfl ?_
  refine m_get rfl rfl ?_
  refine m_iastore rfl rl_5 (by first | omega | exact g1 | exact g2 | (simp only [Int.toNat_natCast, upF_2] at *; omega)) (by first | omega | exact g1 | exact g2 | (simp only [Int.toNat_natCast, upF_2] at *; omega)) ?_
  refine w_aload_n rfl rfl ?_
  refine m_get rfl rfl ?_
  refine w_iload_n rfl rfl ?_
  refine w_aload_n rfl rfl ?_
  refine m_get rfl rfl ?_
  refine m_iastore rfl rl_5 (by first | omega | exact g1 | exact g2 | (simp only [Int.toNat_natCast, upF_2] at *; omega)) (by first | omega | exact g1 | exact g2 | (simp only [Int.toNat_natCast, upF_2] at *; omega)) ?_
  refine w_aload_n rfl rfl ?_
  refine m_get rfl rfl ?_
  refine w_iload_n rfl rfl ?_
  refine w_aload_n rfl rfl ?_
  refine m_get rfl rfl ?_
  refine m_iastore rfl rl_5 (by first | omega | exact g1 | exact g2 | (simp only [Int.toNat_natCast, upF_2] at *; omega)) (by first | omega | exact g1 | exact g2 | (simp only [Int.toNat_natCast, upF_2] at *; omega)) ?_
  refine w_aload_n rfl rfl ?_
  refine m_get rfl rfl ?_
  refine w_iload_n rfl rfl ?_
  refine w_iload_n rfl rfl ?_
  refine m_iastore rfl rl_2 (by first | omega | exact g1 | exact g2 | (simp only [Int.toNat_natCast, upF_2] at *; omega)) (by first | omega | exact g1 | exact g2 | (simp only [Int.toNat_natCast, upF_2] at *; omega)) ?_
  refine w_aload_n rfl rfl ?_
  refine m_get rfl rfl ?_
  refine w_iload_n rfl rfl ?_
  refine w_iload_n rfl rfl ?_
  refine m_iastore rfl rl_3 (by first | omega | exact g1 | exact g2 | (simp only [Int.toNat_natCast, upF_2] at *; omega)) (by first | omega | exact g1 | exact g2 | (simp only [Int.toNat_natCast, upF_2] at *; omega)) ?_
  refine w_return rfl rfl ?_
  exact ⟨rfl, rfl⟩
theorem r_rem_1 (hb : b < m0) (hg : Rg ρ) (d : Nat) (hd : 1 ≤ d) {n : Int} (n1 : -2147483648 ≤ n) (n2 : n ≤ 2147483647) (hc : ¬ (1 ≤ n ∧ n < 256 ∧ ρ.2 1 0 n.toNat ≠ 0)) : Wp b L xs d mi_120 0 (ent (mL mi_120) [.ref m0, vI n]) [] (RH m0 h ρ) (Rn (RH m0 h (upF ρ 0 1))) := by
  by_cases q1 : n < 1
  · refine w_aload_n rfl rfl ?_
    refine w_iload_n rfl rfl ?_
    refine w_iconst rfl ?_
    refine w_iclt_t rfl (by first | omega | exact (hg.2 _ _ _).1 | exact (hg.1 _).1 | (simp only [Int.toNat_natCast, upF_2] at *; omega)) (by first | omega | exact (hg.2 _ _ _).2 | exact (hg.1 _).2 | (simp only [Int.toNat_natCast, upF_2] at *; omega)) (by first | omega | exact (hg.2 _ _ _).1 | exact (hg.1 _).1 | (simp only [Int.toNat_natCast, upF_2] at *; omega)) (by first | omega | exact (hg.2 _ _ _).2 | exact (hg.1 _).2 | (simp only [Int.toNat_natCast, upF_2] at *; omega)) (by first | omega | (simp only [Int.toNat_natCast, upF_2] at *; omega)) ?_
    refine w_iconst rfl ?_
    refine w_goto rfl ?_
    refine w_iconst rfl ?_
    refine w_cvV rfl (by decide) (by first | omega | (simp only [Int.toNat_natCast, upF_2] at *; omega)) rfl RH_obj mt_112 (Nat.le_of_ble_eq_true rfl) (Nat.le_of_ble_eq_true rfl) (r_fails1 hb (by assumption) _) ?_
    refine w_ifeq_f rfl (by first | omega | exact (hg.2 _ _ _).1 | exact (hg.1 _).1 | (simp only [Int.toNat_natCast, upF_2] at *; omega)) (by first | omega | exact (hg.2 _ _ _).2 | exact (hg.1 _).2 | (simp only [Int.toNat_natCast, upF_2] at *; omega)) (by first | omega | (simp only [Int.toNat_natCast, upF_2] at *; omega)) ?_
    refine w_return rfl rfl ?_
    exact ⟨rfl, rfl⟩
  by_cases q2 : 256 ≤ n
  · refine w_aload_n rfl rfl ?_
    refine w_iload_n rfl rfl ?_
    refine w_iconst rfl ?_
    refine w_iclt_f rfl (by first | omega | exact (hg.2 _ _ _).1 | exact (hg.1 _).1 | (simp only [Int.toNat_natCast, upF_2] at *; omega)) (by first | omega | exact (hg.2 _ _ _).2 | exact (hg.1 _).2 | (simp only [Int.toNat_natCast, upF_2] at *; omega)) (by first | omega | exact (hg.2 _ _ _).1 | exact (hg.1 _).1 | (simp only [Int.toNat_natCast, upF_2] at *; omega)) (by first | omega | exact (hg.2 _ _ _).2 | exact (hg.1 _).2 | (simp only [Int.toNat_natCast, upF_2] at *; omega)) (by first | omega | (simp only [Int.toNat_natCast, upF_2] at *; omega)) ?_
    refine w_iload_n rfl rfl ?_
    refine w_sipush rfl rfl ?_
    refine w_icge_t rfl (by first | omega | exact (hg.2 _ _ _).1 | exact (hg.1 _).1 | (simp only [Int.toNat_natCast, upF_2] at *; omega)) (by first | omega | exact (hg.2 _ _ _).2 | exact (hg.1 _).2 | (simp only [Int.toNat_natCast, upF_2] at *; omega)) (by first | omega | exact (hg.2 _ _ _).1 | exact (hg.1 _).1 | (simp only [Int.toNat_natCast, upF_2] at *; omega)) (by first | omega | exact (hg.2 _ _ _).2 | exact (hg.1 _).2 | (simp only [Int.toNat_natCast, upF_2] at *; omega)) (by first | omega | (simp only [Int.toNat_natCast, upF_2] at *; omega)) ?_
    refine w_iconst rfl ?_
    refine w_goto rfl ?_
    refine w_iconst rfl ?_
    refine w_cvV rfl (by decide) (by first | omega | (simp only [Int.toNat_natCast, upF_2] at *; omega)) rfl RH_obj mt_112 (Nat.le_of_ble_eq_true rfl) (Nat.le_of_ble_eq_true rfl) (r_fails1 hb (by assumption) _) ?_
    refine w_ifeq_f rfl (by first | omega | exact (hg.2 _ _ _).1 | exact (hg.1 _).1 | (simp only [Int.toNat_natCast, upF_2] at *; omega)) (by first | omega | exact (hg.2 _ _ _).2 | exact (hg.1 _).2 | (simp only [Int.toNat_natCast, upF_2] at *; omega)) (by first | omega | (simp only [Int.toNat_natCast, upF_2] at *; omega)) ?_
    refine w_return rfl rfl ?_
    exact ⟨rfl, rfl⟩
  have q3 : ρ.2 1 0 n.toNat = 0 := by omega
  refine w_aload_n rfl rfl ?_
  refine w_iload_n rfl rfl ?_
  refine w_iconst rfl ?_
  refine w_iclt_f rfl (by first | omega | exact (hg.2 _ _ _).1 | exact (hg.1 _).1 | (simp only [Int.toNat_natCast, upF_2] at *; omega)) (by first | omega | exact (hg.2 _ _ _).2 | exact (hg.1 _).2 | (simp only [Int.toNat_natCast, upF_2] at *; omega)) (by first | omega | exact (hg.2 _ _ _).1 | exact (hg.1 _).1 | (simp only [Int.toNat_natCast, upF_2] at *; omega)) (by first | omega | exact (hg.2 _ _ _).2 | exact (hg.1 _).2 | (simp only [Int.toNat_natCast, upF_2] at *; omega)) (by first | omega | (simp only [Int.toNat_natCast, upF_2] at *; omega)) ?_
  refine w_iload_n rfl rfl ?_
  refine w_sipush rfl rfl ?_
  refine w_icge_f rfl (by first | omega | exact (hg.2 _ _ _).1 | exact (hg.1 _).1 | (simp only [Int.toNat_natCast, upF_2] at *; omega)) (by first | omega | exact (hg.2 _ _ _).2 | exact (hg.1 _).2 | (simp only [Int.toNat_natCast, upF_2] at *; omega)) (by first | omega | exact (hg.2 _ _ _).1 | exact (hg.1 _).1 | (simp only [Int.toNat_natCast, upF_2] at *; omega)) (by first | omega | exact (hg.2 _ _ _).2 | exact (hg.1 _).2 | (simp only [Int.toNat_natCast, upF_2] at *; omega)) (by first | omega | (simp only [Int.toNat_natCast, upF_2] at *; omega)) ?_
  refine w_aload_n rfl rfl ?_
  refine m_get rfl rfl ?_
  refine w_iload_n rfl rfl ?_
  refine m_iaload rfl hb rl_1 (by first | omega | (simp only [Int.toNat_natCast, upF_2] at *; omega)) (by first | omega | (simp only [Int.toNat_natCast, upF_2] at *; omega)) ?_
  refine w_ifne_f rfl (by first | omega | exact (hg.2 _ _ _).1 | exact (hg.1 _).1 | (simp only [Int.toNat_natCast, upF_2] at *; omega)) (by first | omega | exact (hg.2 _ _ _).2 | exact (hg.1 _).2 | (simp only [Int.toNat_natCast, upF_2] at *; omega)) (by first | omega | (simp only [Int.toNat_natCast, upF_2] at *; omega)) ?_
  refine w_iconst rfl ?_
  refine w_goto rfl ?_
  refine w_iconst rfl ?_
  refine w_cvV rfl (by decide) (by first | omega | (simp only [Int.toNat_natCast, upF_2] at *; omega)) rfl RH_obj mt_112 (Nat.le_of_ble_eq_true rfl) (Nat.le_of_ble_eq_true rfl) (r_fails1 hb (by assumption) _) ?_
  refine w_ifeq_f rfl (by first | omega | exact (hg.2 _ _ _).1 | exact (hg.1 _).1 | (simp only [Int.toNat_natCast, upF_2] at *; omega)) (by first | omega | exact (hg.2 _ _ _).2 | exact (hg.1 _).2 | (simp only [Int.toNat_natCast, upF_2] at *; omega)) (by first | omega | (simp only [Int.toNat_natCast, upF_2] at *; omega)) ?_
  refine w_return rfl rfl ?_
  exact ⟨rfl, rfl⟩
theorem r_rem_2 (hb : b < m0) (hg : Rg ρ) (d : Nat) (hd : 1 ≤ d) {n : Int} (n1 : -2147483648 ≤ n) (n2 : n ≤ 2147483647) (hn : 1 ≤ n ∧ n < 256 ∧ ρ.2 1 0 n.toNat ≠ 0) (q1 : ρ.2 1 0 n.toNat = 2) (q2 : 0 < rEnt ρ n) : Wp b L xs d mi_120 0 (ent (mL mi_120) [.ref m0, vI n]) [] (RH m0 h ρ) (Rn (RH m0 h (upF ρ 0 2))) := by
  have hg0 : Rg (upF ρ 0 0) := hg.upF 0 (by decide) (by decide)
  have n1 : rEnt (upF ρ 0 0) n = rEnt ρ n := rfl
  have n2 : rEnt ρ n ≤ 255 := cnt_le _ _ _
  refine w_aload_n rfl rfl ?_
  refine w_iload_n rfl rfl ?_
  refine w_iconst rfl ?_
  refine w_iclt_f rfl (by first | omega | exact (hg.2 _ _ _).1 | exact (hg.1 _).1 | (simp only [Int.toNat_natCast, upF_2] at *; omega)) (by first | omega | exact (hg.2 _ _ _).2 | exact (hg.1 _).2 | (simp only [Int.toNat_natCast, upF_2] at *; omega)) (by first | omega | exact (hg.2 _ _ _).1 | exact (hg.1 _).1 | (simp only [Int.toNat_natCast, upF_2] at *; omega)) (by first | omega | exact (hg.2 _ _ _).2 | exact (hg.1 _).2 | (simp only [Int.toNat_natCast, upF_2] at *; omega)) (by first | omega | (simp only [Int.toNat_natCast, upF_2] at *; omega)) ?_
  refine w_iload_n rfl rfl ?_
  refine w_sipush rfl rfl ?_
  refine w_icge_f rfl (by first | omega | exact (hg.2 _ _ _).1 | exact (hg.1 _).1 | (simp only [Int.toNat_natCast, upF_2] at *; omega)) (by first | omega | exact (hg.2 _ _ _).2 | exact (hg.1 _).2 | (simp only [Int.toNat_natCast, upF_2] at *; omega)) (by first | omega | exact (hg.2 _ _ _).1 | exact (hg.1 _).1 | (simp only [Int.toNat_natCast, upF_2] at *; omega)) (by first | omega | exact (hg.2 _ _ _).2 | exact (hg.1 _).2 | (simp only [Int.toNat_natCast, upF_2] at *; omega)) (by first | omega | (simp only [Int.toNat_natCast, upF_2] at *; omega)) ?_
  refine w_aload_n rfl rfl ?_
  refine m_get rfl rfl ?_
  refine w_iload_n rfl rfl ?_
  refine m_iaload rfl hb rl_1 (by first | omega | (simp only [Int.toNat_natCast, upF_2] at *; omega)) (by first | omega | (simp only [Int.toNat_natCast, upF_2] at *; omega)) ?_
  refine w_ifne_t rfl (by first | omega | exact (hg.2 _ _ _).1 | exact (hg.1 _).1 | (simp only [Int.toNat_natCast, upF_2] at *; omega)) (by first | omega | exact (hg.2 _ _ _).2 | exact (hg.1 _).2 | (simp only [Int.toNat_natCast, upF_2] at *; omega)) (by first | omega | (simp only [Int.toNat_natCast, upF_2] at *; omega)) ?_
  refine w_iconst rfl ?_
  refine w_iconst rfl ?_
  refine w_cvV rfl (by decide) (by first | omega | (simp only [Int.toNat_natCast, upF_2] at *; omega)) rfl RH_obj mt_112 (Nat.le_of_ble_eq_true rfl) (Nat.le_of_ble_eq_true rfl) (r_fails0 hb (by assumption) _) ?_
  refine w_ifeq_t rfl (by first | omega | exact (hg.2 _ _ _).1 | exact (hg.1 _).1 | (simp only [Int.toNat_natCast, upF_2] at *; omega)) (by first | omega | exact (hg.2 _ _ _).2 | exact (hg.1 _).2 | (simp only [Int.toNat_natCast, upF_2] at *; omega)) (by first | omega | (simp only [Int.toNat_natCast, upF_2] at *; omega)) ?_
  refine w_aload_n rfl rfl ?_
  refine w_aload_n rfl rfl ?_
  refine m_get rfl rfl ?_
  refine w_iload_n rfl rfl ?_
  refine m_iaload rfl hb rl_1 (by first | omega | (simp only [Int.toNat_natCast, upF_2] at *; omega)) (by first | omega | (simp only [Int.toNat_natCast, upF_2] at *; omega)) ?_
  refine w_iconst rfl ?_
  refine w_icne_f rfl (by first | omega | exact (hg.2 _ _ _).1 | exact (hg.1 _).1 | (simp only [Int.toNat_natCast, upF_2] at *; omega)) (by first | omega | exact (hg.2 _ _ _).2 | exact (hg.1 _).2 | (simp only [Int.toNat_natCast, upF_2] at *; omega)) (by first | omega | exact (hg.2 _ _ _).1 | exact (hg.1 _).1 | (simp only [Int.toNat_natCast, upF_2] at *; omega)) (by first | omega | exact (hg.2 _ _ _).2 | exact (hg.1 _).2 | (simp only [Int.toNat_natCast, upF_2] at *; omega)) (by first | omega | (simp only [Int.toNat_natCast, upF_2] at *; omega)) ?_
  refine w_aload_n rfl rfl ?_
  refine w_iload_n rfl rfl ?_
  refine w_cvV rfl (by decide) (by first | omega | (simp only [Int.toNat_natCast, upF_2] at *; omega)) rfl RH_obj mt_121 (Nat.le_of_ble_eq_true rfl) (Nat.le_of_ble_eq_true rfl) (r_ent hb (by assumption) _ (by first | omega | exact (hg.2 _ _ _).1 | exact (hg.1 _).1 | (simp only [Int.toNat_natCast, upF_2] at *; omega)) (by first | omega | exact (hg.2 _ _ _).2 | exact (hg.1 _).2 | (simp only [Int.toNat_natCast, upF_2] at *; omega))) ?_
  refine w_ifle_f rfl (by first | omega | exact (hg.2 _ _ _).1 | exact (hg.1 _).1 | (simp only [Int.toNat_natCast, upF_2] at *; omega)) (by first | omega | exact (hg.2 _ _ _).2 | exact (hg.1 _).2 | (simp only [Int.toNat_natCast, upF_2] at *; omega)) (by first | omega | (simp only [Int.toNat_natCast, upF_2] at *; omega)) ?_
  refine w_iconst rfl ?_
  refine w_goto rfl ?_
  refine w_iconst rfl ?_
  refine w_cvV rfl (by decide) (by first | omega | (simp only [Int.toNat_natCast, upF_2] at *; omega)) rfl RH_obj mt_112 (Nat.le_of_ble_eq_true rfl) (Nat.le_of_ble_eq_true rfl) (r_fails1 hb (by assumption) _) ?_
  rw [upF_upF]
  refine w_ifeq_f rfl (by first | omega | exact (hg.2 _ _ _).1 | exact (hg.1 _).1 | (simp only [Int.toNat_natCast, upF_2] at *; omega)) (by first | omega | exact (hg.2 _ _ _).2 | exact (hg.1 _).2 | (simp only [Int.toNat_natCast, upF_2] at *; omega)) (by first | omega | (simp only [Int.toNat_natCast, upF_2] at *; omega)) ?_
  refine w_return rfl rfl ?_
  exact ⟨rfl, rfl⟩
def rRem (ρ : RS) (n : Nat) : RS := upA (upF (upA (upF ρ 0 0) 1 0 n 0) 7 (ρ.1 7 + 1)) 5 0 (ρ.2 2 0 n).toNat (ρ.1 7 + 1)
theorem r_rem (hb : b < m0) (hg : Rg ρ) (d : Nat) (hd : 1 ≤ d) {n : Int} (n1 : -2147483648 ≤ n) (n2 : n ≤ 2147483647) (hn : 1 ≤ n ∧ n < 256 ∧ ρ.2 1 0 n.toNat ≠ 0) (q1 : ρ.2 1 0 n.toNat = 2 → rEnt ρ n = 0) (g1 : 0 ≤ ρ.2 2 0 n.toNat) (g2 : ρ.2 2 0 n.toNat < 256) : Wp b L xs d mi_120 0 (ent (mL mi_120) [.ref m0, vI n]) [] (RH m0 h ρ) (Rn (RH m0 h (rRem ρ n.toNat))) := by
  have hg0 : Rg (upF ρ 0 0) := hg.upF 0 (by decide) (by decide)
  have n1 : rEnt (upF ρ 0 0) n = rEnt ρ n := rfl
  have n2 : rEnt ρ n ≤ 255 := cnt_le _ _ _
  by_cases q5 : ρ.2 1 0 n.toNat = 2
  · have q6 := q1 q5
    refine w_aload_n rfl rfl ?_
    refine w_iload_n rfl rfl ?_
    refine w_iconst rfl ?_
    refine w_iclt_f rfl (by first | omega | exact (hg.2 _ _ _).1 | exact (hg.1 _).1 | (simp only [Int.toNat_natCast, upF_2] at *; omega)) (by first | omega | exact (hg.2 _ _ _).2 | exact (hg.1 _).2 | (simp only [Int.toNat_natCast, upF_2] at *; omega)) (by first | omega | exact (hg.2 _ _ _).1 | exact (hg.1 _).1 | (simp only [Int.toNat_natCast, upF_2] at *; omega)) (by first | omega | exact (hg.2 _ _ _).2 | exact (hg.1 _).2 | (simp only [Int.toNat_natCast, upF_2] at *; omega)) (by first | omega | exact g1 | exact g2 | (simp only [Int.toNat_natCast, upF_2] at *; omega)) ?_
    refine w_iload_n rfl rfl ?_
    refine w_sipush rfl rfl ?_
    refine w_icge_f rfl (by first | omega | exact (hg.2 _ _ _).1 | exact (hg.1 _).1 | (simp only [Int.toNat_natCast, upF_2] at *; omega)) (by first | omega | exact (hg.2 _ _ _).2 | exact (hg.1 _).2 | (simp only [Int.toNat_natCast, upF_2] at *; omega)) (by first | omega | exact (hg.2 _ _ _).1 | exact (hg.1 _).1 | (simp only [Int.toNat_natCast, upF_2] at *; omega)) (by first | omega | exact (hg.2 _ _ _).2 | exact (hg.1 _).2 | (simp only [Int.toNat_natCast, upF_2] at *; omega)) (by first | omega | exact g1 | exact g2 | (simp only [Int.toNat_natCast, upF_2] at *; omega)) ?_
    refine w_aload_n rfl rfl ?_
    refine m_get rfl rfl ?_
    refine w_iload_n rfl rfl ?_
    refine m_iaload rfl hb rl_1 (by first | omega | exact g1 | exact g2 | (simp only [Int.toNat_natCast, upF_2] at *; omega)) (by first | omega | exact g1 | exact g2 | (simp only [Int.toNat_natCast, upF_2] at *; omega)) ?_
    refine w_ifne_t rfl (by first | omega | exact (hg.2 _ _ _).1 | exact (hg.1 _).1 | (simp only [Int.toNat_natCast, upF_2] at *; omega)) (by first | omega | exact (hg.2 _ _ _).2 | exact (hg.1 _).2 | (simp only [Int.toNat_natCast, upF_2] at *; omega)) (by first | omega | exact g1 | exact g2 | (simp only [Int.toNat_natCast, upF_2] at *; omega)) ?_
    refine w_iconst rfl ?_
    refine w_iconst rfl ?_
    refine w_cvV rfl (by decide) (by first | omega | exact g1 | exact g2 | (simp only [Int.toNat_natCast, upF_2] at *; omega)) rfl RH_obj mt_112 (Nat.le_of_ble_eq_true rfl) (Nat.le_of_ble_eq_true rfl) (r_fails0 hb (by assumption) _) ?_
    refine w_ifeq_t rfl (by first | omega | exact (hg.2 _ _ _).1 | exact (hg.1 _).1 | (simp only [Int.toNat_natCast, upF_2] at *; omega)) (by first | omega | exact (hg.2 _ _ _).2 | exact (hg.1 _).2 | (simp only [Int.toNat_natCast, upF_2] at *; omega)) (by first | omega | exact g1 | exact g2 | (simp only [Int.toNat_natCast, upF_2] at *; omega)) ?_
    refine w_aload_n rfl rfl ?_
    refine w_aload_n rfl rfl ?_
    refine m_get rfl rfl ?_
    refine w_iload_n rfl rfl ?_
    refine m_iaload rfl hb rl_1 (by first | omega | exact g1 | exact g2 | (simp only [Int.toNat_natCast, upF_2] at *; omega)) (by first | omega | exact g1 | exact g2 | (simp only [Int.toNat_natCast, upF_2] at *; omega)) ?_
    refine w_iconst rfl ?_
    refine w_icne_f rfl (by first | omega | exact (hg.2 _ _ _).1 | exact (hg.1 _).1 | (simp only [Int.toNat_natCast, upF_2] at *; omega)) (by first | omega | exact (hg.2 _ _ _).2 | exact (hg.1 _).2 | (simp only [Int.toNat_natCast, upF_2] at *; omega)) (by first | omega | exact (hg.2 _ _ _).1 | exact (hg.1 _).1 | (simp only [Int.toNat_natCast, upF_2] at *; omega)) (by first | omega | exact (hg.2 _ _ _).2 | exact (hg.1 _).2 | (simp only [Int.toNat_natCast, upF_2] at *; omega)) (by first | omega | exact g1 | exact g2 | (simp only [Int.toNat_natCast, upF_2] at *; omega)) ?_
    refine w_aload_n rfl rfl ?_
    refine w_iload_n rfl rfl ?_
    refine w_cvV rfl (by decide) (by first | omega | exact g1 | exact g2 | (simp only [Int.toNat_natCast, upF_2] at *; omega)) rfl RH_obj mt_121 (Nat.le_of_ble_eq_true rfl) (Nat.le_of_ble_eq_true rfl) (r_ent hb (by assumption) _ (by first | omega | exact (hg.2 _ _ _).1 | exact (hg.1 _).1 | (simp only [Int.toNat_natCast, upF_2] at *; omega)) (by first | omega | exact (hg.2 _ _ _).2 | exact (hg.1 _).2 | (simp only [Int.toNat_natCast, upF_2] at *; omega))) ?_
    refine w_ifle_t rfl (by first | omega | exact (hg.2 _ _ _).1 | exact (hg.1 _).1 | (simp only [Int.toNat_natCast, upF_2] at *; omega)) (by first | omega | exact (hg.2 _ _ _).2 | exact (hg.1 _).2 | (simp only [Int.toNat_natCast, upF_2] at *; omega)) (by first | omega | exact g1 | exact g2 | (simp only [Int.toNat_natCast, upF_2] at *; omega)) ?_
    refine w_iconst rfl ?_
    refine w_iconst rfl ?_
    refine w_cvV rfl (by decide) (by first | omega | exact g1 | exact g2 | (simp only [Int.toNat_natCast, upF_2] at *; omega)) rfl RH_obj mt_112 (Nat.le_of_ble_eq_true rfl) (Nat.le_of_ble_eq_true rfl) (r_fails0 hb (by assumption) _) ?_
    rw [upF_upF]
    refine w_ifeq_t rfl (by first | omega | exact (hg.2 _ _ _).1 | exact (hg.1 _).1 | (simp only [Int.toNat_natCast, upF_2] at *; omega)) (by first | omega | exact (hg.2 _ _ _).2 | exact (hg.1 _).2 | (simp only [Int.toNat_natCast, upF_2] at *; omega)) (by first | omega | exact g1 | exact g2 | (simp only [Int.toNat_natCast, upF_2] at *; omega)) ?_
    refine w_aload_n rfl rfl ?_
    refine m_get rfl rfl ?_
    refine w_iload_n rfl rfl ?_
    refine w_iconst rfl ?_
    refine m_iastore rfl rl_1 (by first | omega | exact g1 | exact g2 | (simp only [Int.toNat_natCast, upF_2] at *; omega)) (by first | omega | exact g1 | exact g2 | (simp only [Int.toNat_natCast, upF_2] at *; omega)) ?_
    refine w_aload_n rfl rfl ?_
    refine m_get rfl rfl ?_
    refine w_aload_n rfl rfl ?_
    refine m_get rfl rfl ?_
    refine w_iload_n rfl rfl ?_
    refine m_iaload rfl hb rl_2 (by first | omega | exact g1 | exact g2 | (simp only [Int.toNat_natCast, upF_2] at *; omega)) (by first | omega | exact g1 | exact g2 | (simp only [Int.toNat_natCast, upF_2] at *; omega)) ?_
    refine w_aload_n rfl rfl ?_
    refine w_dupR rfl ?_
    refine m_get rfl rfl ?_
    refine w_iconst rfl ?_
    refine w_iadd rfl ?_
    refine w_dup_x1 rfl ?_
    refine m_put rfl rfl rfl rfl ?_
    refine m_iastore rfl rl_5 (by first | omega | exact g1 | exact g2 | (simp only [Int.toNat_natCast, upF_2] at *; omega)) (by first | omega | exact g1 | exact g2 | (simp only [Int.toNat_natCast, upF_2] at *; omega)) ?_
    refine w_return rfl rfl ?_
    exact ⟨rfl, rfl⟩
  · refine w_aload_n rfl rfl ?_
    refine w_iload_n rfl rfl ?_
    refine w_iconst rfl ?_
    refine w_iclt_f rfl (by first | omega | exact (hg.2 _ _ _).1 | exact (hg.1 _).1 | (simp only [Int.toNat_natCast, upF_2] at *; omega)) (by first | omega | exact (hg.2 _ _ _).2 | exact (hg.1 _).2 | (simp only [Int.toNat_natCast, upF_2] at *; omega)) (by first | omega | exact (hg.2 _ _ _).1 | exact (hg.1 _).1 | (simp only [Int.toNat_natCast, upF_2] at *; omega)) (by first | omega | exact (hg.2 _ _ _).2 | exact (hg.1 _).2 | (simp only [Int.toNat_natCast, upF_2] at *; omega)) (by first | omega | exact g1 | exact g2 | (simp only [Int.toNat_natCast, upF_2] at *; omega)) ?_
    refine w_iload_n rfl rfl ?_
    refine w_sipush rfl rfl ?_
    refine w_icge_f rfl (by first | omega | exact (hg.2 _ _ _).1 | exact (hg.1 _).1 | (simp only [Int.toNat_natCast, upF_2] at *; omega)) (by first | omega | exact (hg.2 _ _ _).2 | exact (hg.1 _).2 | (simp only [Int.toNat_natCast, upF_2] at *; omega)) (by first | omega | exact (hg.2 _ _ _).1 | exact (hg.1 _).1 | (simp only [Int.toNat_natCast, upF_2] at *; omega)) (by first | omega | exact (hg.2 _ _ _).2 | exact (hg.1 _).2 | (simp only [Int.toNat_natCast, upF_2] at *; omega)) (by first | omega | exact g1 | exact g2 | (simp only [Int.toNat_natCast, upF_2] at *; omega)) ?_
    refine w_aload_n rfl rfl ?_
    refine m_get rfl rfl ?_
    refine w_iload_n rfl rfl ?_
    refine m_iaload rfl hb rl_1 (by first | omega | exact g1 | exact g2 | (simp only [Int.toNat_natCast, upF_2] at *; omega)) (by first | omega | exact g1 | exact g2 | (simp only [Int.toNat_natCast, upF_2] at *; omega)) ?_
    refine w_ifne_t rfl (by first | omega | exact (hg.2 _ _ _).1 | exact (hg.1 _).1 | (simp only [Int.toNat_natCast, upF_2] at *; omega)) (by first | omega | exact (hg.2 _ _ _).2 | exact (hg.1 _).2 | (simp only [Int.toNat_natCast, upF_2] at *; omega)) (by first | omega | exact g1 | exact g2 | (simp only [Int.toNat_natCast, upF_2] at *; omega)) ?_
    refine w_iconst rfl ?_
    refine w_iconst rfl ?_
    refine w_cvV rfl (by decide) (by first | omega | exact g1 | exact g2 | (simp only [Int.toNat_natCast, upF_2] at *; omega)) rfl RH_obj mt_112 (Nat.le_of_ble_eq_true rfl) (Nat.le_of_ble_eq_true rfl) (r_fails0 hb (by assumption) _) ?_
    refine w_ifeq_t rfl (by first | omega | exact (hg.2 _ _ _).1 | exact (hg.1 _).1 | (simp only [Int.toNat_natCast, upF_2] at *; omega)) (by first | omega | exact (hg.2 _ _ _).2 | exact (hg.1 _).2 | (simp only [Int.toNat_natCast, upF_2] at *; omega)) (by first | omega | exact g1 | exact g2 | (simp only [Int.toNat_natCast, upF_2] at *; omega)) ?_
    refine w_aload_n rfl rfl ?_
    refine w_aload_n rfl rfl ?_
    refine m_get rfl rfl ?_
    refine w_iload_n rfl rfl ?_
    refine m_iaload rfl hb rl_1 (by first | omega | exact g1 | exact g2 | (simp only [Int.toNat_natCast, upF_2] at *; omega)) (by first | omega | exact g1 | exact g2 | (simp only [Int.toNat_natCast, upF_2] at *; omega)) ?_
    refine w_iconst rfl ?_
    refine w_icne_t rfl (by first | omega | exact (hg.2 _ _ _).1 | exact (hg.1 _).1 | (simp only [Int.toNat_natCast, upF_2] at *; omega)) (by first | omega | exact (hg.2 _ _ _).2 | exact (hg.1 _).2 | (simp only [Int.toNat_natCast, upF_2] at *; omega)) (by first | omega | exact (hg.2 _ _ _).1 | exact (hg.1 _).1 | (simp only [Int.toNat_natCast, upF_2] at *; omega)) (by first | omega | exact (hg.2 _ _ _).2 | exact (hg.1 _).2 | (simp only [Int.toNat_natCast, upF_2] at *; omega)) (by first | omega | exact g1 | exact g2 | (simp only [Int.toNat_natCast, upF_2] at *; omega)) ?_
    refine w_iconst rfl ?_
    refine w_iconst rfl ?_
    refine w_cvV rfl (by decide) (by first | omega | exact g1 | exact g2 | (simp only [Int.toNat_natCast, upF_2] at *; omega)) rfl RH_obj mt_112 (Nat.le_of_ble_eq_true rfl) (Nat.le_of_ble_eq_true rfl) (r_fails0 hb (by assumption) _) ?_
    rw [upF_upF]
    refine w_ifeq_t rfl (by first | omega | exact (hg.2 _ _ _).1 | exact (hg.1 _).1 | (simp only [Int.toNat_natCast, upF_2] at *; omega)) (by first | omega | exact (hg.2 _ _ _).2 | exact (hg.1 _).2 | (simp only [Int.toNat_natCast, upF_2] at *; omega)) (by first | omega | exact g1 | exact g2 | (simp only [Int.toNat_natCast, upF_2] at *; omega)) ?_
    refine w_aload_n rfl rfl ?_
    refine m_get rfl rfl ?_
    refine w_iload_n rfl rfl ?_
    refine w_iconst rfl ?_
    refine m_iastore rfl rl_1 (by first | omega | exact g1 | exact g2 | (simp only [Int.toNat_natCast, upF_2] at *; omega)) (by first | omega | exact g1 | exact g2 | (simp only [Int.toNat_natCast, upF_2] at *; omega)) ?_
    refine w_aload_n rfl rfl ?_
    refine m_get rfl rfl ?_
    refine w_aload_n rfl rfl ?_
    refine m_get rfl rfl ?_
    refine w_iload_n rfl rfl ?_
    refine m_iaload rfl hb rl_2 (by first | omega | exact g1 | exact g2 | (simp only [Int.toNat_natCast, upF_2] at *; omega)) (by first | omega | exact g1 | exact g2 | (simp only [Int.toNat_natCast, upF_2] at *; omega)) ?_
    refine w_aload_n rfl rfl ?_
    refine w_dupR rfl ?_
    refine m_get rfl rfl ?_
    refine w_iconst rfl ?_
    refine w_iadd rfl ?_
    refine w_dup_x1 rfl ?_
    refine m_put rfl rfl rfl rfl ?_
    refine m_iastore rfl rl_5 (by first | omega | exact g1 | exact g2 | (simp only [Int.toNat_natCast, upF_2] at *; omega)) (by first | omega | exact g1 | exact g2 | (simp only [Int.toNat_natCast, upF_2] at *; omega)) ?_
    refine w_return rfl rfl ?_
    exact ⟨rfl, rfl⟩
theorem r_spoil_1 (hb : b < m0) (hg : Rg ρ) (d : Nat) (hd : 1 ≤ d) {v c : Int} (v1 : -2147483648 ≤ v) (v2 : v ≤ 2147483647) (c1 : -2147483648 ≤ c) (c2 : c ≤ 2147483647) (k1 : 4 ≤ ρ.1 8) (k2 : ρ.1 8 ≤ 1000) (w1 : 0 ≤ ρ.1 9) (w2 : ρ.1 9 ≤ 4000) (hw : ¬ rWr ρ v c) : Wp b L xs d mi_127 0 (ent (mL mi_127) [.ref m0, vI v, vI c]) [] (RH m0 h ρ) (Rn (RH m0 h (upF ρ 0 1))) := by
  refine w_aload_n rfl rfl ?_
  refine w_aload_n rfl rfl ?_
  refine w_iload_n rfl rfl ?_
  refine w_iload_n rfl rfl ?_
  refine w_cvV rfl (by decide) (by first | omega | (simp only [Int.toNat_natCast, upF_2] at *; omega)) rfl RH_obj mt_128 (Nat.le_of_ble_eq_true rfl) (Nat.le_of_ble_eq_true rfl) (r_wr0 hb hg _ v1 v2 c1 c2 k1 k2 w1 w2 hw) ?_
  refine w_ifne_f rfl (by first | omega | exact (hg.2 _ _ _).1 | exact (hg.1 _).1 | (simp only [Int.toNat_natCast, upF_2] at *; omega)) (by first | omega | exact (hg.2 _ _ _).2 | exact (hg.1 _).2 | (simp only [Int.toNat_natCast, upF_2] at *; omega)) (by first | omega | (simp only [Int.toNat_natCast, upF_2] at *; omega)) ?_
  refine w_iconst rfl ?_
  refine w_goto rfl ?_
  refine w_iconst rfl ?_
  refine w_cvV rfl (by decide) (by first | omega | (simp only [Int.toNat_natCast, upF_2] at *; omega)) rfl RH_obj mt_112 (Nat.le_of_ble_eq_true rfl) (Nat.le_of_ble_eq_true rfl) (r_fails1 hb (by assumption) _) ?_
  refine w_ifeq_f rfl (by first | omega | exact (hg.2 _ _ _).1 | exact (hg.1 _).1 | (simp only [Int.toNat_natCast, upF_2] at *; omega)) (by first | omega | exact (hg.2 _ _ _).2 | exact (hg.1 _).2 | (simp only [Int.toNat_natCast, upF_2] at *; omega)) (by first | omega | (simp only [Int.toNat_natCast, upF_2] at *; omega)) ?_
  refine w_return rfl rfl ?_
  exact ⟨rfl, rfl⟩
def rSpoil (ρ : RS) (v c : Int) : RS := if c = 0 then upA (upF ρ 0 0) 31 0 v.toNat 1 else upA (upF ρ 0 0) 30 0 (v * (ρ.1 8 - 1) + c - 1).toNat 1
theorem r_spoil (hb : b < m0) (hg : Rg ρ) (d : Nat) (hd : 1 ≤ d) {v c : Int} (v1 : -2147483648 ≤ v) (v2 : v ≤ 2147483647) (c1 : -2147483648 ≤ c) (c2 : c ≤ 2147483647) (k1 : 4 ≤ ρ.1 8) (k2 : ρ.1 8 ≤ 1000) (w1 : 0 ≤ ρ.1 9) (w2 : ρ.1 9 ≤ 4000) (hw : rWr ρ v c) : Wp b L xs d mi_127 0 (ent (mL mi_127) [.ref m0, vI v, vI c]) [] (RH m0 h ρ) (Rn (RH m0 h (rSpoil ρ v c))) := by
  have hg0 : Rg (upF ρ 0 0) := hg.upF 0 (by decide) (by decide)
  have hw2 := hw
  obtain ⟨a1, a2, a3, a4, a5⟩ := hw2
  have hz1 : 0 ≤ v * (ρ.1 8 - 1) := Int.mul_nonneg (by omega) (by omega)
  unfold rSpoil
  by_cases q : c = 0
  · rw [if_pos q]
    refine w_aload_n rfl rfl ?_
    refine w_aload_n rfl rfl ?_
    refine w_iload_n rfl rfl ?_
    refine w_iload_n rfl rfl ?_
    refine w_cvV rfl (by decide) (by first | omega | (simp only [Int.toNat_natCast, upF_2] at *; omega)) rfl RH_obj mt_128 (Nat.le_of_ble_eq_true rfl) (Nat.le_of_ble_eq_true rfl) (r_wr1 hb hg _ k1 k2 w1 w2 hw) ?_
    refine w_ifne_t rfl (by first | omega | exact (hg.2 _ _ _).1 | exact (hg.1 _).1 | (simp only [Int.toNat_natCast, upF_2] at *; omega)) (by first | omega | exact (hg.2 _ _ _).2 | exact (hg.1 _).2 | (simp only [Int.toNat_natCast, upF_2] at *; omega)) (by first | omega | (simp only [Int.toNat_natCast, upF_2] at *; omega)) ?_
    refine w_iconst rfl ?_
    refine w_iconst rfl ?_
    refine w_cvV rfl (by decide) (by first | omega | (simp only [Int.toNat_natCast, upF_2] at *; omega)) rfl RH_obj mt_112 (Nat.le_of_ble_eq_true rfl) (Nat.le_of_ble_eq_true rfl) (r_fails0 hb (by assumption) _) ?_
    refine w_ifeq_t rfl (by first | omega | exact (hg.2 _ _ _).1 | exact (hg.1 _).1 | (simp only [Int.toNat_natCast, upF_2] at *; omega)) (by first | omega | exact (hg.2 _ _ _).2 | exact (hg.1 _).2 | (simp only [Int.toNat_natCast, upF_2] at *; omega)) (by first | omega | (simp only [Int.toNat_natCast, upF_2] at *; omega)) ?_
    refine w_iload_n rfl rfl ?_
    refine w_ifne_f rfl (by first | omega | exact (hg.2 _ _ _).1 | exact (hg.1 _).1 | (simp only [Int.toNat_natCast, upF_2] at *; omega)) (by first | omega | exact (hg.2 _ _ _).2 | exact (hg.1 _).2 | (simp only [Int.toNat_natCast, upF_2] at *; omega)) (by first | omega | (simp only [Int.toNat_natCast, upF_2] at *; omega)) ?_
    refine w_aload_n rfl rfl ?_
    refine m_get rfl rfl ?_
    refine w_iload_n rfl rfl ?_
    refine w_iconst rfl ?_
    refine m_zastore rfl rl_31 (by first | omega | (simp only [Int.toNat_natCast, upF_2] at *; omega)) (by first | omega | (simp only [Int.toNat_natCast, upF_2] at *; omega)) (by first | omega | (simp only [Int.toNat_natCast, upF_2] at *; omega)) ?_
    refine w_goto rfl ?_
    refine w_return rfl rfl ?_
    exact ⟨rfl, rfl⟩
  · rw [if_neg q] at a5 ⊢
    have e1 : (upF ρ 0 0).1 8 = ρ.1 8 := rfl
    refine w_aload_n rfl rfl ?_
    refine w_aload_n rfl rfl ?_
    refine w_iload_n rfl rfl ?_
    refine w_iload_n rfl rfl ?_
    refine w_cvV rfl (by decide) (by first | omega | (rw [e1]; omega) | (simp only [Int.toNat_natCast, upF_2] at *; omega)) rfl RH_obj mt_128 (Nat.le_of_ble_eq_true rfl) (Nat.le_of_ble_eq_true rfl) (r_wr1 hb hg _ k1 k2 w1 w2 hw) ?_
    refine w_ifne_t rfl (by first | omega | exact (hg.2 _ _ _).1 | exact (hg.1 _).1 | (simp only [Int.toNat_natCast, upF_2] at *; omega)) (by first | omega | exact (hg.2 _ _ _).2 | exact (hg.1 _).2 | (simp only [Int.toNat_natCast, upF_2] at *; omega)) (by first | omega | (rw [e1]; omega) | (simp only [Int.toNat_natCast, upF_2] at *; omega)) ?_
    refine w_iconst rfl ?_
    refine w_iconst rfl ?_
    refine w_cvV rfl (by decide) (by first | omega | (rw [e1]; omega) | (simp only [Int.toNat_natCast, upF_2] at *; omega)) rfl RH_obj mt_112 (Nat.le_of_ble_eq_true rfl) (Nat.le_of_ble_eq_true rfl) (r_fails0 hb (by assumption) _) ?_
    refine w_ifeq_t rfl (by first | omega | exact (hg.2 _ _ _).1 | exact (hg.1 _).1 | (simp only [Int.toNat_natCast, upF_2] at *; omega)) (by first | omega | exact (hg.2 _ _ _).2 | exact (hg.1 _).2 | (simp only [Int.toNat_natCast, upF_2] at *; omega)) (by first | omega | (rw [e1]; omega) | (simp only [Int.toNat_natCast, upF_2] at *; omega)) ?_
    refine w_iload_n rfl rfl ?_
    refine w_ifne_t rfl (by first | omega | exact (hg.2 _ _ _).1 | exact (hg.1 _).1 | (simp only [Int.toNat_natCast, upF_2] at *; omega)) (by first | omega | exact (hg.2 _ _ _).2 | exact (hg.1 _).2 | (simp only [Int.toNat_natCast, upF_2] at *; omega)) (by first | omega | (rw [e1]; omega) | (simp only [Int.toNat_natCast, upF_2] at *; omega)) ?_
    refine w_aload_n rfl rfl ?_
    refine m_get rfl rfl ?_
    refine w_aload_n rfl rfl ?_
    refine w_iload_n rfl rfl ?_
    refine w_iload_n rfl rfl ?_
    refine w_cvV rfl (by decide) (by first | omega | (rw [e1]; omega) | (simp only [Int.toNat_natCast, upF_2] at *; omega)) rfl RH_obj mt_129 (Nat.le_of_ble_eq_true rfl) (Nat.le_of_ble_eq_true rfl) (r_place hb (by assumption) _) ?_
    refine w_iconst rfl ?_
    refine m_zastore rfl rl_30 (by first | omega | (rw [e1]; omega) | (simp only [Int.toNat_natCast, upF_2] at *; omega)) (by first | omega | (rw [e1]; omega) | (simp only [Int.toNat_natCast, upF_2] at *; omega)) (by first | omega | (rw [e1]; omega) | (simp only [Int.toNat_natCast, upF_2] at *; omega)) ?_
    refine w_return rfl rfl ?_
    exact ⟨rfl, rfl⟩
end Rr4
end
