/-! the law is what its bytes say -/
theorem all_split {α : Type} (l : List α) (f : α → Bool) (a n : Nat) (h1 : ((l.drop a).take n).all f = true) (h2 : (l.drop (a + n)).all f = true) : (l.drop a).all f = true := by
  rw [← List.take_append_drop n (l.drop a), List.all_append, h1, List.drop_drop, h2]
  rfl
theorem mok_145 : mokb mi_145 = true := by
  have e : (mE mi_145).all (eokx mi_145) = ((mE mi_145).drop 0).all (eokx mi_145) := rfl
  show (mE mi_145).all (eokx mi_145) = true
  rw [e]
  refine all_split _ _ 0 70 mokl_0 ?_
  refine all_split _ _ 70 70 mokl_1 ?_
  refine all_split _ _ 140 70 mokl_2 ?_
  refine all_split _ _ 210 70 mokl_3 ?_
  refine all_split _ _ 280 70 mokl_4 ?_
  refine all_split _ _ 350 70 mokl_5 ?_
  refine all_split _ _ 420 70 mokl_6 ?_
  refine all_split _ _ 490 70 mokl_7 ?_
  refine all_split _ _ 560 70 mokl_8 ?_
  refine all_split _ _ 630 70 mokl_9 ?_
  decide +kernel
