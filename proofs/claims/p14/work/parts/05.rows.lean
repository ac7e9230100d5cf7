/-! ===== a row an instruction, over Sim ===== -/
section MR
variable {α : Type} {G : mG} {X : mX} {cc : ByteArray} {nL : Nat} {own : String} {rt : Option FieldType} {rm : Room} {em : α → mRes} {f : Option α} {pc : Nat} {L : List (Nat × mV)} {st : List mV} {h : mH}

theorem mLs_st {i : Nat} {v : mV} {L' : List (Nat × mV)} (hL' : (i, v) :: L.filter (fun q => !(q.1 == i) && !(q.1 + 1 == i && mCat q.2 == 2)) = L') : (i, mC G v) :: (mLs G L).filter (fun q => !(q.1 == i) && !(q.1 + 1 == i && q.2.category == 2)) = mLs G L' := by
  subst hL'
  show _ = (i, mC G v) :: (L.filter _).map _
  congr 1
  unfold mLs
  rw [List.filter_map]
  congr 1
  apply List.filter_congr
  intro q _
  simp [Function.comp, mC_cat]
theorem mLs_st2 {i : Nat} {v : mV} {L' : List (Nat × mV)} (hL' : (i, v) :: L.filter (fun q => !(q.1 == i) && (!(q.1 == i + 1) && !(q.1 + 1 == i && mCat q.2 == 2))) = L') : (i, mC G v) :: (mLs G L).filter (fun q => !(q.1 == i) && (!(q.1 == i + 1) && !(q.1 + 1 == i && q.2.category == 2))) = mLs G L' := by
  subst hL'
  show _ = (i, mC G v) :: (L.filter _).map _
  congr 1
  unfold mLs
  rw [List.filter_map]
  congr 1
  apply List.filter_congr
  intro q _
  simp [Function.comp, mC_cat]
theorem s_iconst {n : Int} {v : Int32} (hv : Int32.ofInt n = v) (hd : decode cc pc = .ok (.iconst n, 1))
    (k : Sim G X cc nL own rt rm em f (pc + 1) L (.inl v :: st) h) : Sim G X cc nL own rt rm em f pc L st h := by
  intro a ha
  have k := k a ha
  obtain ⟨p, l, e, R, s, m, args, below, meth, c, nc, ns, QQ⟩ := X
  intro F H locs ls hw hS hl hL hst
  have k := k F H locs ls hw hS hl hL
  obtain ⟨hx, hb, hml, hown, hts, hr, hlk, hK, hrm, hnc, hQQ⟩ := id F
  exact lv_iconst hx hb hd hv (k (fun w hq => by rcases List.mem_cons.mp hq with rfl | hq; exact trivial; exact hst w hq))
theorem s_bipush {n : Int} {v : Int32} (hv : (Int8.ofInt n).toInt32 = v) (hd : decode cc pc = .ok (.bipush n, 2))
    (k : Sim G X cc nL own rt rm em f (pc + 2) L (.inl v :: st) h) : Sim G X cc nL own rt rm em f pc L st h := by
  intro a ha
  have k := k a ha
  obtain ⟨p, l, e, R, s, m, args, below, meth, c, nc, ns, QQ⟩ := X
  intro F H locs ls hw hS hl hL hst
  have k := k F H locs ls hw hS hl hL
  obtain ⟨hx, hb, hml, hown, hts, hr, hlk, hK, hrm, hnc, hQQ⟩ := id F
  exact lv_bipush hx hb hd hv (k (fun w hq => by rcases List.mem_cons.mp hq with rfl | hq; exact trivial; exact hst w hq))
theorem s_sipush {n : Int} {v : Int32} (hv : (Int16.ofInt n).toInt32 = v) (hd : decode cc pc = .ok (.sipush n, 3))
    (k : Sim G X cc nL own rt rm em f (pc + 3) L (.inl v :: st) h) : Sim G X cc nL own rt rm em f pc L st h := by
  intro a ha
  have k := k a ha
  obtain ⟨p, l, e, R, s, m, args, below, meth, c, nc, ns, QQ⟩ := X
  intro F H locs ls hw hS hl hL hst
  have k := k F H locs ls hw hS hl hL
  obtain ⟨hx, hb, hml, hown, hts, hr, hlk, hK, hrm, hnc, hQQ⟩ := id F
  exact lv_sipush hx hb hd hv (k (fun w hq => by rcases List.mem_cons.mp hq with rfl | hq; exact trivial; exact hst w hq))
theorem s_lconst {n : Fin 2} {v : Int64} (hv : Int64.ofNat (n : Nat) = v) (hd : decode cc pc = .ok (.lconst n, 1))
    (k : Sim G X cc nL own rt rm em f (pc + 1) L (.inr (.inl v) :: st) h) : Sim G X cc nL own rt rm em f pc L st h := by
  intro a ha
  have k := k a ha
  obtain ⟨p, l, e, R, s, m, args, below, meth, c, nc, ns, QQ⟩ := X
  intro F H locs ls hw hS hl hL hst
  have k := k F H locs ls hw hS hl hL
  obtain ⟨hx, hb, hml, hown, hts, hr, hlk, hK, hrm, hnc, hQQ⟩ := id F
  exact lv_lconst hx hb hd hv (k (fun w hq => by rcases List.mem_cons.mp hq with rfl | hq; exact trivial; exact hst w hq))
theorem s_ldc {i : Nat} {v : Int32} (hw1 : Cond.constant own i v ∈ mTb) (hd : decode cc pc = .ok (.ldc i, 2))
    (k : Sim G X cc nL own rt rm em f (pc + 2) L (.inl v :: st) h) : Sim G X cc nL own rt rm em f pc L st h := by
  intro a ha
  have k := k a ha
  obtain ⟨p, l, e, R, s, m, args, below, meth, c, nc, ns, QQ⟩ := X
  intro F H locs ls hw hS hl hL hst
  have k := k F H locs ls hw hS hl hL
  obtain ⟨hx, hb, hml, hown, hts, hr, hlk, hK, hrm, hnc, hQQ⟩ := id F
  exact lv_ldc hx hb hown (hts _ hw1) hd (k (fun w hq => by rcases List.mem_cons.mp hq with rfl | hq; exact trivial; exact hst w hq))
theorem s_ldcw {i : Nat} {v : Int32} (hw1 : Cond.constant own i v ∈ mTb) (hd : decode cc pc = .ok (.ldc_w i, 3))
    (k : Sim G X cc nL own rt rm em f (pc + 3) L (.inl v :: st) h) : Sim G X cc nL own rt rm em f pc L st h := by
  intro a ha
  have k := k a ha
  obtain ⟨p, l, e, R, s, m, args, below, meth, c, nc, ns, QQ⟩ := X
  intro F H locs ls hw hS hl hL hst
  have k := k F H locs ls hw hS hl hL
  obtain ⟨hx, hb, hml, hown, hts, hr, hlk, hK, hrm, hnc, hQQ⟩ := id F
  exact lv_ldcw hx hb hown (hts _ hw1) hd (k (fun w hq => by rcases List.mem_cons.mp hq with rfl | hq; exact trivial; exact hst w hq))
theorem s_ldc2 {i : Nat} {v : Int64} (hw1 : Cond.constantLong own i v ∈ mTb) (hd : decode cc pc = .ok (.ldc2_w i, 3))
    (k : Sim G X cc nL own rt rm em f (pc + 3) L (.inr (.inl v) :: st) h) : Sim G X cc nL own rt rm em f pc L st h := by
  intro a ha
  have k := k a ha
  obtain ⟨p, l, e, R, s, m, args, below, meth, c, nc, ns, QQ⟩ := X
  intro F H locs ls hw hS hl hL hst
  have k := k F H locs ls hw hS hl hL
  obtain ⟨hx, hb, hml, hown, hts, hr, hlk, hK, hrm, hnc, hQQ⟩ := id F
  exact lv_ldc2 hx hb hown (hts _ hw1) hd (k (fun w hq => by rcases List.mem_cons.mp hq with rfl | hq; exact trivial; exact hst w hq))
theorem s_iload_n {n : Fin 4} {i : Nat} {x : Int32} (hi : (n : Nat) = i) (q : Nat) (hq : L[q]? = some (i, .inl x)) (hd : decode cc pc = .ok (.iload_n n, 1))
    (k : Sim G X cc nL own rt rm em f (pc + 1) L (.inl x :: st) h) : Sim G X cc nL own rt rm em f pc L st h := by
  intro a ha
  have k := k a ha
  obtain ⟨p, l, e, R, s, m, args, below, meth, c, nc, ns, QQ⟩ := X
  intro F H locs ls hw hS hl hL hst
  have k := k F H locs ls hw hS hl hL
  obtain ⟨hx, hb, hml, hown, hts, hr, hlk, hK, hrm, hnc, hQQ⟩ := id F
  exact lv_iload_n hx hb hd hi (lv_at hl q (by rw [mLs, List.getElem?_map, hq]; rfl)) (k (fun w hq2 => by rcases List.mem_cons.mp hq2 with rfl | hq2; exact hL _ (List.mem_of_getElem? hq); exact hst w hq2))
theorem s_iload {i : Nat} {x : Int32} (q : Nat) (hq : L[q]? = some (i, .inl x)) (hd : decode cc pc = .ok (.iload i, 2))
    (k : Sim G X cc nL own rt rm em f (pc + 2) L (.inl x :: st) h) : Sim G X cc nL own rt rm em f pc L st h := by
  intro a ha
  have k := k a ha
  obtain ⟨p, l, e, R, s, m, args, below, meth, c, nc, ns, QQ⟩ := X
  intro F H locs ls hw hS hl hL hst
  have k := k F H locs ls hw hS hl hL
  obtain ⟨hx, hb, hml, hown, hts, hr, hlk, hK, hrm, hnc, hQQ⟩ := id F
  exact lv_iload hx hb hd (lv_at hl q (by rw [mLs, List.getElem?_map, hq]; rfl)) (k (fun w hq2 => by rcases List.mem_cons.mp hq2 with rfl | hq2; exact hL _ (List.mem_of_getElem? hq); exact hst w hq2))
theorem s_lload_n {n : Fin 4} {i : Nat} {x : Int64} (hi : (n : Nat) = i) (q : Nat) (hq : L[q]? = some (i, .inr (.inl x))) (hd : decode cc pc = .ok (.lload_n n, 1))
    (k : Sim G X cc nL own rt rm em f (pc + 1) L (.inr (.inl x) :: st) h) : Sim G X cc nL own rt rm em f pc L st h := by
  intro a ha
  have k := k a ha
  obtain ⟨p, l, e, R, s, m, args, below, meth, c, nc, ns, QQ⟩ := X
  intro F H locs ls hw hS hl hL hst
  have k := k F H locs ls hw hS hl hL
  obtain ⟨hx, hb, hml, hown, hts, hr, hlk, hK, hrm, hnc, hQQ⟩ := id F
  exact lv_lload_n hx hb hd hi (lv_at hl q (by rw [mLs, List.getElem?_map, hq]; rfl)) (k (fun w hq2 => by rcases List.mem_cons.mp hq2 with rfl | hq2; exact hL _ (List.mem_of_getElem? hq); exact hst w hq2))
theorem s_lload {i : Nat} {x : Int64} (q : Nat) (hq : L[q]? = some (i, .inr (.inl x))) (hd : decode cc pc = .ok (.lload i, 2))
    (k : Sim G X cc nL own rt rm em f (pc + 2) L (.inr (.inl x) :: st) h) : Sim G X cc nL own rt rm em f pc L st h := by
  intro a ha
  have k := k a ha
  obtain ⟨p, l, e, R, s, m, args, below, meth, c, nc, ns, QQ⟩ := X
  intro F H locs ls hw hS hl hL hst
  have k := k F H locs ls hw hS hl hL
  obtain ⟨hx, hb, hml, hown, hts, hr, hlk, hK, hrm, hnc, hQQ⟩ := id F
  exact lv_lload hx hb hd (lv_at hl q (by rw [mLs, List.getElem?_map, hq]; rfl)) (k (fun w hq2 => by rcases List.mem_cons.mp hq2 with rfl | hq2; exact hL _ (List.mem_of_getElem? hq); exact hst w hq2))
theorem s_aload_n {n : Fin 4} {i : Nat} {x : mR} (hi : (n : Nat) = i) (q : Nat) (hq : L[q]? = some (i, .inr (.inr x))) (hd : decode cc pc = .ok (.aload_n n, 1))
    (k : Sim G X cc nL own rt rm em f (pc + 1) L (.inr (.inr x) :: st) h) : Sim G X cc nL own rt rm em f pc L st h := by
  intro a ha
  have k := k a ha
  obtain ⟨p, l, e, R, s, m, args, below, meth, c, nc, ns, QQ⟩ := X
  intro F H locs ls hw hS hl hL hst
  have k := k F H locs ls hw hS hl hL
  obtain ⟨hx, hb, hml, hown, hts, hr, hlk, hK, hrm, hnc, hQQ⟩ := id F
  exact lv_aload_n hx hb hd hi (lv_at hl q (by rw [mLs, List.getElem?_map, hq]; rfl)) (k (fun w hq2 => by rcases List.mem_cons.mp hq2 with rfl | hq2; exact hL _ (List.mem_of_getElem? hq); exact hst w hq2))
theorem s_aload {i : Nat} {x : mR} (q : Nat) (hq : L[q]? = some (i, .inr (.inr x))) (hd : decode cc pc = .ok (.aload i, 2))
    (k : Sim G X cc nL own rt rm em f (pc + 2) L (.inr (.inr x) :: st) h) : Sim G X cc nL own rt rm em f pc L st h := by
  intro a ha
  have k := k a ha
  obtain ⟨p, l, e, R, s, m, args, below, meth, c, nc, ns, QQ⟩ := X
  intro F H locs ls hw hS hl hL hst
  have k := k F H locs ls hw hS hl hL
  obtain ⟨hx, hb, hml, hown, hts, hr, hlk, hK, hrm, hnc, hQQ⟩ := id F
  exact lv_aload hx hb hd (lv_at hl q (by rw [mLs, List.getElem?_map, hq]; rfl)) (k (fun w hq2 => by rcases List.mem_cons.mp hq2 with rfl | hq2; exact hL _ (List.mem_of_getElem? hq); exact hst w hq2))
theorem s_istore_n {n : Fin 4} {i : Nat} {x : Int32} {L' : List (Nat × mV)} (hi : (n : Nat) = i) (hn : i < nL) (hL' : (i, .inl x) :: L.filter (fun q => !(q.1 == i) && !(q.1 + 1 == i && mCat q.2 == 2)) = L') (hd : decode cc pc = .ok (.istore_n n, 1))
    (k : Sim G X cc nL own rt rm em f (pc + 1) L' st h) : Sim G X cc nL own rt rm em f pc L (.inl x :: st) h := by
  intro a ha
  have k := k a ha
  obtain ⟨p, l, e, R, s, m, args, below, meth, c, nc, ns, QQ⟩ := X
  intro F H locs ls hw hS hl hL hst
  obtain ⟨hx, hb, hml, hown, hts, hr, hlk, hK, hrm, hnc, hQQ⟩ := id F
  refine lv_istore_n hx hb hd hi hl hn (mLs_st hL') (fun ls' hl' => ?_)
  exact k F H locs ls' hw hS hl' (fun q hq => by
    rw [← hL'] at hq
    rcases List.mem_cons.mp hq with rfl | hq
    · exact hst _ List.mem_cons_self
    · exact hL q (List.mem_filter.mp hq).1) (fun w hq => hst w (List.mem_cons_of_mem _ hq))
theorem s_istore {i : Nat} {x : Int32} {L' : List (Nat × mV)} (hn : i < nL) (hL' : (i, .inl x) :: L.filter (fun q => !(q.1 == i) && !(q.1 + 1 == i && mCat q.2 == 2)) = L') (hd : decode cc pc = .ok (.istore i, 2))
    (k : Sim G X cc nL own rt rm em f (pc + 2) L' st h) : Sim G X cc nL own rt rm em f pc L (.inl x :: st) h := by
  intro a ha
  have k := k a ha
  obtain ⟨p, l, e, R, s, m, args, below, meth, c, nc, ns, QQ⟩ := X
  intro F H locs ls hw hS hl hL hst
  obtain ⟨hx, hb, hml, hown, hts, hr, hlk, hK, hrm, hnc, hQQ⟩ := id F
  refine lv_istore hx hb hd hl hn (mLs_st hL') (fun ls' hl' => ?_)
  exact k F H locs ls' hw hS hl' (fun q hq => by
    rw [← hL'] at hq
    rcases List.mem_cons.mp hq with rfl | hq
    · exact hst _ List.mem_cons_self
    · exact hL q (List.mem_filter.mp hq).1) (fun w hq => hst w (List.mem_cons_of_mem _ hq))
theorem s_astore_n {n : Fin 4} {i : Nat} {x : mR} {L' : List (Nat × mV)} (hi : (n : Nat) = i) (hn : i < nL) (hL' : (i, .inr (.inr x)) :: L.filter (fun q => !(q.1 == i) && !(q.1 + 1 == i && mCat q.2 == 2)) = L') (hd : decode cc pc = .ok (.astore_n n, 1))
    (k : Sim G X cc nL own rt rm em f (pc + 1) L' st h) : Sim G X cc nL own rt rm em f pc L (.inr (.inr x) :: st) h := by
  intro a ha
  have k := k a ha
  obtain ⟨p, l, e, R, s, m, args, below, meth, c, nc, ns, QQ⟩ := X
  intro F H locs ls hw hS hl hL hst
  obtain ⟨hx, hb, hml, hown, hts, hr, hlk, hK, hrm, hnc, hQQ⟩ := id F
  refine lv_astore_n hx hb hd hi hl hn (mLs_st hL') (fun ls' hl' => ?_)
  exact k F H locs ls' hw hS hl' (fun q hq => by
    rw [← hL'] at hq
    rcases List.mem_cons.mp hq with rfl | hq
    · exact hst _ List.mem_cons_self
    · exact hL q (List.mem_filter.mp hq).1) (fun w hq => hst w (List.mem_cons_of_mem _ hq))
theorem s_astore {i : Nat} {x : mR} {L' : List (Nat × mV)} (hn : i < nL) (hL' : (i, .inr (.inr x)) :: L.filter (fun q => !(q.1 == i) && !(q.1 + 1 == i && mCat q.2 == 2)) = L') (hd : decode cc pc = .ok (.astore i, 2))
    (k : Sim G X cc nL own rt rm em f (pc + 2) L' st h) : Sim G X cc nL own rt rm em f pc L (.inr (.inr x) :: st) h := by
  intro a ha
  have k := k a ha
  obtain ⟨p, l, e, R, s, m, args, below, meth, c, nc, ns, QQ⟩ := X
  intro F H locs ls hw hS hl hL hst
  obtain ⟨hx, hb, hml, hown, hts, hr, hlk, hK, hrm, hnc, hQQ⟩ := id F
  refine lv_astore hx hb hd hl hn (mLs_st hL') (fun ls' hl' => ?_)
  exact k F H locs ls' hw hS hl' (fun q hq => by
    rw [← hL'] at hq
    rcases List.mem_cons.mp hq with rfl | hq
    · exact hst _ List.mem_cons_self
    · exact hL q (List.mem_filter.mp hq).1) (fun w hq => hst w (List.mem_cons_of_mem _ hq))
theorem s_lstore_n {n : Fin 4} {i : Nat} {x : Int64} {L' : List (Nat × mV)} (hi : (n : Nat) = i) (hn : i + 1 < nL) (hL' : (i, .inr (.inl x)) :: L.filter (fun q => !(q.1 == i) && (!(q.1 == i + 1) && !(q.1 + 1 == i && mCat q.2 == 2))) = L') (hd : decode cc pc = .ok (.lstore_n n, 1))
    (k : Sim G X cc nL own rt rm em f (pc + 1) L' st h) : Sim G X cc nL own rt rm em f pc L (.inr (.inl x) :: st) h := by
  intro a ha
  have k := k a ha
  obtain ⟨p, l, e, R, s, m, args, below, meth, c, nc, ns, QQ⟩ := X
  intro F H locs ls hw hS hl hL hst
  obtain ⟨hx, hb, hml, hown, hts, hr, hlk, hK, hrm, hnc, hQQ⟩ := id F
  refine lv_lstore_n hx hb hd hi hl hn (mLs_st2 hL') (fun ls' hl' => ?_)
  exact k F H locs ls' hw hS hl' (fun q hq => by
    rw [← hL'] at hq
    rcases List.mem_cons.mp hq with rfl | hq
    · exact hst _ List.mem_cons_self
    · exact hL q (List.mem_filter.mp hq).1) (fun w hq => hst w (List.mem_cons_of_mem _ hq))
theorem s_lstore {i : Nat} {x : Int64} {L' : List (Nat × mV)} (hn : i + 1 < nL) (hL' : (i, .inr (.inl x)) :: L.filter (fun q => !(q.1 == i) && (!(q.1 == i + 1) && !(q.1 + 1 == i && mCat q.2 == 2))) = L') (hd : decode cc pc = .ok (.lstore i, 2))
    (k : Sim G X cc nL own rt rm em f (pc + 2) L' st h) : Sim G X cc nL own rt rm em f pc L (.inr (.inl x) :: st) h := by
  intro a ha
  have k := k a ha
  obtain ⟨p, l, e, R, s, m, args, below, meth, c, nc, ns, QQ⟩ := X
  intro F H locs ls hw hS hl hL hst
  obtain ⟨hx, hb, hml, hown, hts, hr, hlk, hK, hrm, hnc, hQQ⟩ := id F
  refine lv_lstore hx hb hd hl hn (mLs_st2 hL') (fun ls' hl' => ?_)
  exact k F H locs ls' hw hS hl' (fun q hq => by
    rw [← hL'] at hq
    rcases List.mem_cons.mp hq with rfl | hq
    · exact hst _ List.mem_cons_self
    · exact hL q (List.mem_filter.mp hq).1) (fun w hq => hst w (List.mem_cons_of_mem _ hq))
theorem s_iinc {i : Nat} {n : Int} {x v : Int32} {L' : List (Nat × mV)} (q : Nat) (hq : L[q]? = some (i, .inl x)) (hv : Int32.ofInt n = v) (hn : i < nL) (hL' : (i, .inl (x + v)) :: L.filter (fun q => !(q.1 == i) && !(q.1 + 1 == i && mCat q.2 == 2)) = L') (hd : decode cc pc = .ok (.iinc i n, 3))
    (k : Sim G X cc nL own rt rm em f (pc + 3) L' st h) : Sim G X cc nL own rt rm em f pc L st h := by
  intro a ha
  have k := k a ha
  obtain ⟨p, l, e, R, s, m, args, below, meth, c, nc, ns, QQ⟩ := X
  intro F H locs ls hw hS hl hL hst
  obtain ⟨hx, hb, hml, hown, hts, hr, hlk, hK, hrm, hnc, hQQ⟩ := id F
  subst hv
  refine lv_iinc (k := q) hx hb hd hl (by rw [mLs, List.getElem?_map, hq]; rfl) rfl hn (mLs_st hL') (fun ls' hl' => ?_)
  exact k F H locs ls' hw hS hl' (fun q hq => by
    rw [← hL'] at hq
    rcases List.mem_cons.mp hq with rfl | hq
    · exact trivial
    · exact hL q (List.mem_filter.mp hq).1) hst
theorem s_iadd {x y : Int32} (hd : decode cc pc = .ok (.iadd, 1))
    (k : Sim G X cc nL own rt rm em f (pc + 1) L (.inl (x + y) :: st) h) : Sim G X cc nL own rt rm em f pc L (.inl y :: .inl x :: st) h := by
  intro a ha
  have k := k a ha
  obtain ⟨p, l, e, R, s, m, args, below, meth, c, nc, ns, QQ⟩ := X
  intro F H locs ls hw hS hl hL hst
  have k := k F H locs ls hw hS hl hL
  obtain ⟨hx, hb, hml, hown, hts, hr, hlk, hK, hrm, hnc, hQQ⟩ := id F
  exact lv_iadd hx hb hd (k (fun w hq => by rcases List.mem_cons.mp hq with rfl | hq; exact trivial; exact hst w (List.mem_cons_of_mem _ (List.mem_cons_of_mem _ (hq)))))
theorem s_isub {x y : Int32} (hd : decode cc pc = .ok (.isub, 1))
    (k : Sim G X cc nL own rt rm em f (pc + 1) L (.inl (x - y) :: st) h) : Sim G X cc nL own rt rm em f pc L (.inl y :: .inl x :: st) h := by
  intro a ha
  have k := k a ha
  obtain ⟨p, l, e, R, s, m, args, below, meth, c, nc, ns, QQ⟩ := X
  intro F H locs ls hw hS hl hL hst
  have k := k F H locs ls hw hS hl hL
  obtain ⟨hx, hb, hml, hown, hts, hr, hlk, hK, hrm, hnc, hQQ⟩ := id F
  exact lv_isub hx hb hd (k (fun w hq => by rcases List.mem_cons.mp hq with rfl | hq; exact trivial; exact hst w (List.mem_cons_of_mem _ (List.mem_cons_of_mem _ (hq)))))
theorem s_imul {x y : Int32} (hd : decode cc pc = .ok (.imul, 1))
    (k : Sim G X cc nL own rt rm em f (pc + 1) L (.inl (x * y) :: st) h) : Sim G X cc nL own rt rm em f pc L (.inl y :: .inl x :: st) h := by
  intro a ha
  have k := k a ha
  obtain ⟨p, l, e, R, s, m, args, below, meth, c, nc, ns, QQ⟩ := X
  intro F H locs ls hw hS hl hL hst
  have k := k F H locs ls hw hS hl hL
  obtain ⟨hx, hb, hml, hown, hts, hr, hlk, hK, hrm, hnc, hQQ⟩ := id F
  exact lv_imul hx hb hd (k (fun w hq => by rcases List.mem_cons.mp hq with rfl | hq; exact trivial; exact hst w (List.mem_cons_of_mem _ (List.mem_cons_of_mem _ (hq)))))
theorem s_iand {x y : Int32} (hd : decode cc pc = .ok (.iand, 1))
    (k : Sim G X cc nL own rt rm em f (pc + 1) L (.inl (x &&& y) :: st) h) : Sim G X cc nL own rt rm em f pc L (.inl y :: .inl x :: st) h := by
  intro a ha
  have k := k a ha
  obtain ⟨p, l, e, R, s, m, args, below, meth, c, nc, ns, QQ⟩ := X
  intro F H locs ls hw hS hl hL hst
  have k := k F H locs ls hw hS hl hL
  obtain ⟨hx, hb, hml, hown, hts, hr, hlk, hK, hrm, hnc, hQQ⟩ := id F
  exact lv_iand hx hb hd (k (fun w hq => by rcases List.mem_cons.mp hq with rfl | hq; exact trivial; exact hst w (List.mem_cons_of_mem _ (List.mem_cons_of_mem _ (hq)))))
theorem s_ior {x y : Int32} (hd : decode cc pc = .ok (.ior, 1))
    (k : Sim G X cc nL own rt rm em f (pc + 1) L (.inl (x ||| y) :: st) h) : Sim G X cc nL own rt rm em f pc L (.inl y :: .inl x :: st) h := by
  intro a ha
  have k := k a ha
  obtain ⟨p, l, e, R, s, m, args, below, meth, c, nc, ns, QQ⟩ := X
  intro F H locs ls hw hS hl hL hst
  have k := k F H locs ls hw hS hl hL
  obtain ⟨hx, hb, hml, hown, hts, hr, hlk, hK, hrm, hnc, hQQ⟩ := id F
  exact lv_ior hx hb hd (k (fun w hq => by rcases List.mem_cons.mp hq with rfl | hq; exact trivial; exact hst w (List.mem_cons_of_mem _ (List.mem_cons_of_mem _ (hq)))))
theorem s_ixor {x y : Int32} (hd : decode cc pc = .ok (.ixor, 1))
    (k : Sim G X cc nL own rt rm em f (pc + 1) L (.inl (x ^^^ y) :: st) h) : Sim G X cc nL own rt rm em f pc L (.inl y :: .inl x :: st) h := by
  intro a ha
  have k := k a ha
  obtain ⟨p, l, e, R, s, m, args, below, meth, c, nc, ns, QQ⟩ := X
  intro F H locs ls hw hS hl hL hst
  have k := k F H locs ls hw hS hl hL
  obtain ⟨hx, hb, hml, hown, hts, hr, hlk, hK, hrm, hnc, hQQ⟩ := id F
  exact lv_ixor hx hb hd (k (fun w hq => by rcases List.mem_cons.mp hq with rfl | hq; exact trivial; exact hst w (List.mem_cons_of_mem _ (List.mem_cons_of_mem _ (hq)))))
theorem s_ishl {x y : Int32} (hd : decode cc pc = .ok (.ishl, 1))
    (k : Sim G X cc nL own rt rm em f (pc + 1) L (.inl (x <<< (y &&& 31)) :: st) h) : Sim G X cc nL own rt rm em f pc L (.inl y :: .inl x :: st) h := by
  intro a ha
  have k := k a ha
  obtain ⟨p, l, e, R, s, m, args, below, meth, c, nc, ns, QQ⟩ := X
  intro F H locs ls hw hS hl hL hst
  have k := k F H locs ls hw hS hl hL
  obtain ⟨hx, hb, hml, hown, hts, hr, hlk, hK, hrm, hnc, hQQ⟩ := id F
  exact lv_ishl hx hb hd (k (fun w hq => by rcases List.mem_cons.mp hq with rfl | hq; exact trivial; exact hst w (List.mem_cons_of_mem _ (List.mem_cons_of_mem _ (hq)))))
theorem s_ishr {x y : Int32} (hd : decode cc pc = .ok (.ishr, 1))
    (k : Sim G X cc nL own rt rm em f (pc + 1) L (.inl (x >>> (y &&& 31)) :: st) h) : Sim G X cc nL own rt rm em f pc L (.inl y :: .inl x :: st) h := by
  intro a ha
  have k := k a ha
  obtain ⟨p, l, e, R, s, m, args, below, meth, c, nc, ns, QQ⟩ := X
  intro F H locs ls hw hS hl hL hst
  have k := k F H locs ls hw hS hl hL
  obtain ⟨hx, hb, hml, hown, hts, hr, hlk, hK, hrm, hnc, hQQ⟩ := id F
  exact lv_ishr hx hb hd (k (fun w hq => by rcases List.mem_cons.mp hq with rfl | hq; exact trivial; exact hst w (List.mem_cons_of_mem _ (List.mem_cons_of_mem _ (hq)))))
theorem s_ladd {x y : Int64} (hd : decode cc pc = .ok (.ladd, 1))
    (k : Sim G X cc nL own rt rm em f (pc + 1) L (.inr (.inl (x + y)) :: st) h) : Sim G X cc nL own rt rm em f pc L (.inr (.inl y) :: .inr (.inl x) :: st) h := by
  intro a ha
  have k := k a ha
  obtain ⟨p, l, e, R, s, m, args, below, meth, c, nc, ns, QQ⟩ := X
  intro F H locs ls hw hS hl hL hst
  have k := k F H locs ls hw hS hl hL
  obtain ⟨hx, hb, hml, hown, hts, hr, hlk, hK, hrm, hnc, hQQ⟩ := id F
  exact lv_ladd hx hb hd (k (fun w hq => by rcases List.mem_cons.mp hq with rfl | hq; exact trivial; exact hst w (List.mem_cons_of_mem _ (List.mem_cons_of_mem _ (hq)))))
theorem s_lsub {x y : Int64} (hd : decode cc pc = .ok (.lsub, 1))
    (k : Sim G X cc nL own rt rm em f (pc + 1) L (.inr (.inl (x - y)) :: st) h) : Sim G X cc nL own rt rm em f pc L (.inr (.inl y) :: .inr (.inl x) :: st) h := by
  intro a ha
  have k := k a ha
  obtain ⟨p, l, e, R, s, m, args, below, meth, c, nc, ns, QQ⟩ := X
  intro F H locs ls hw hS hl hL hst
  have k := k F H locs ls hw hS hl hL
  obtain ⟨hx, hb, hml, hown, hts, hr, hlk, hK, hrm, hnc, hQQ⟩ := id F
  exact lv_lsub hx hb hd (k (fun w hq => by rcases List.mem_cons.mp hq with rfl | hq; exact trivial; exact hst w (List.mem_cons_of_mem _ (List.mem_cons_of_mem _ (hq)))))
theorem s_land {x y : Int64} (hd : decode cc pc = .ok (.land, 1))
    (k : Sim G X cc nL own rt rm em f (pc + 1) L (.inr (.inl (x &&& y)) :: st) h) : Sim G X cc nL own rt rm em f pc L (.inr (.inl y) :: .inr (.inl x) :: st) h := by
  intro a ha
  have k := k a ha
  obtain ⟨p, l, e, R, s, m, args, below, meth, c, nc, ns, QQ⟩ := X
  intro F H locs ls hw hS hl hL hst
  have k := k F H locs ls hw hS hl hL
  obtain ⟨hx, hb, hml, hown, hts, hr, hlk, hK, hrm, hnc, hQQ⟩ := id F
  exact lv_land hx hb hd (k (fun w hq => by rcases List.mem_cons.mp hq with rfl | hq; exact trivial; exact hst w (List.mem_cons_of_mem _ (List.mem_cons_of_mem _ (hq)))))
theorem s_lor {x y : Int64} (hd : decode cc pc = .ok (.lor, 1))
    (k : Sim G X cc nL own rt rm em f (pc + 1) L (.inr (.inl (x ||| y)) :: st) h) : Sim G X cc nL own rt rm em f pc L (.inr (.inl y) :: .inr (.inl x) :: st) h := by
  intro a ha
  have k := k a ha
  obtain ⟨p, l, e, R, s, m, args, below, meth, c, nc, ns, QQ⟩ := X
  intro F H locs ls hw hS hl hL hst
  have k := k F H locs ls hw hS hl hL
  obtain ⟨hx, hb, hml, hown, hts, hr, hlk, hK, hrm, hnc, hQQ⟩ := id F
  exact lv_lor hx hb hd (k (fun w hq => by rcases List.mem_cons.mp hq with rfl | hq; exact trivial; exact hst w (List.mem_cons_of_mem _ (List.mem_cons_of_mem _ (hq)))))
theorem s_lshl {x : Int64} {y : Int32} (hd : decode cc pc = .ok (.lshl, 1))
    (k : Sim G X cc nL own rt rm em f (pc + 1) L (.inr (.inl (x <<< (y.toInt64 &&& 63))) :: st) h) : Sim G X cc nL own rt rm em f pc L (.inl y :: .inr (.inl x) :: st) h := by
  intro a ha
  have k := k a ha
  obtain ⟨p, l, e, R, s, m, args, below, meth, c, nc, ns, QQ⟩ := X
  intro F H locs ls hw hS hl hL hst
  have k := k F H locs ls hw hS hl hL
  obtain ⟨hx, hb, hml, hown, hts, hr, hlk, hK, hrm, hnc, hQQ⟩ := id F
  exact lv_lshl hx hb hd rfl (k (fun w hq => by rcases List.mem_cons.mp hq with rfl | hq; exact trivial; exact hst w (List.mem_cons_of_mem _ (List.mem_cons_of_mem _ (hq)))))
theorem s_lcmp {x y : Int64} (hd : decode cc pc = .ok (.lcmp, 1))
    (k : Sim G X cc nL own rt rm em f (pc + 1) L (.inl (lg_cmp x y) :: st) h) : Sim G X cc nL own rt rm em f pc L (.inr (.inl y) :: .inr (.inl x) :: st) h := by
  intro a ha
  have k := k a ha
  obtain ⟨p, l, e, R, s, m, args, below, meth, c, nc, ns, QQ⟩ := X
  intro F H locs ls hw hS hl hL hst
  have k := k F H locs ls hw hS hl hL
  obtain ⟨hx, hb, hml, hown, hts, hr, hlk, hK, hrm, hnc, hQQ⟩ := id F
  exact W.lcmp hx hb hd (k (fun w hq => by rcases List.mem_cons.mp hq with rfl | hq; exact trivial; exact hst w (List.mem_cons_of_mem _ (List.mem_cons_of_mem _ (hq)))))
theorem s_i2l {x : Int32} (hd : decode cc pc = .ok (.i2l, 1))
    (k : Sim G X cc nL own rt rm em f (pc + 1) L (.inr (.inl x.toInt64) :: st) h) : Sim G X cc nL own rt rm em f pc L (.inl x :: st) h := by
  intro a ha
  have k := k a ha
  obtain ⟨p, l, e, R, s, m, args, below, meth, c, nc, ns, QQ⟩ := X
  intro F H locs ls hw hS hl hL hst
  have k := k F H locs ls hw hS hl hL
  obtain ⟨hx, hb, hml, hown, hts, hr, hlk, hK, hrm, hnc, hQQ⟩ := id F
  exact lv_i2l hx hb hd rfl (k (fun w hq => by rcases List.mem_cons.mp hq with rfl | hq; exact trivial; exact hst w (List.mem_cons_of_mem _ (hq))))
theorem s_l2i {x : Int64} (hd : decode cc pc = .ok (.l2i, 1))
    (k : Sim G X cc nL own rt rm em f (pc + 1) L (.inl x.toInt32 :: st) h) : Sim G X cc nL own rt rm em f pc L (.inr (.inl x) :: st) h := by
  intro a ha
  have k := k a ha
  obtain ⟨p, l, e, R, s, m, args, below, meth, c, nc, ns, QQ⟩ := X
  intro F H locs ls hw hS hl hL hst
  have k := k F H locs ls hw hS hl hL
  obtain ⟨hx, hb, hml, hown, hts, hr, hlk, hK, hrm, hnc, hQQ⟩ := id F
  exact lv_l2i hx hb hd rfl (k (fun w hq => by rcases List.mem_cons.mp hq with rfl | hq; exact trivial; exact hst w (List.mem_cons_of_mem _ (hq))))
theorem s_i2b {x : Int32} (hd : decode cc pc = .ok (.i2b, 1))
    (k : Sim G X cc nL own rt rm em f (pc + 1) L (.inl x.toInt8.toInt32 :: st) h) : Sim G X cc nL own rt rm em f pc L (.inl x :: st) h := by
  intro a ha
  have k := k a ha
  obtain ⟨p, l, e, R, s, m, args, below, meth, c, nc, ns, QQ⟩ := X
  intro F H locs ls hw hS hl hL hst
  have k := k F H locs ls hw hS hl hL
  obtain ⟨hx, hb, hml, hown, hts, hr, hlk, hK, hrm, hnc, hQQ⟩ := id F
  exact lv_i2b hx hb hd rfl (k (fun w hq => by rcases List.mem_cons.mp hq with rfl | hq; exact trivial; exact hst w (List.mem_cons_of_mem _ (hq))))
theorem s_i2s {x : Int32} (hd : decode cc pc = .ok (.i2s, 1))
    (k : Sim G X cc nL own rt rm em f (pc + 1) L (.inl x.toInt16.toInt32 :: st) h) : Sim G X cc nL own rt rm em f pc L (.inl x :: st) h := by
  intro a ha
  have k := k a ha
  obtain ⟨p, l, e, R, s, m, args, below, meth, c, nc, ns, QQ⟩ := X
  intro F H locs ls hw hS hl hL hst
  have k := k F H locs ls hw hS hl hL
  obtain ⟨hx, hb, hml, hown, hts, hr, hlk, hK, hrm, hnc, hQQ⟩ := id F
  exact lv_i2s hx hb hd rfl (k (fun w hq => by rcases List.mem_cons.mp hq with rfl | hq; exact trivial; exact hst w (List.mem_cons_of_mem _ (hq))))
theorem s_dup {v : mV} (hv : mCat v = 1) (hd : decode cc pc = .ok (.dup, 1))
    (k : Sim G X cc nL own rt rm em f (pc + 1) L (v :: v :: st) h) : Sim G X cc nL own rt rm em f pc L (v :: st) h := by
  intro a ha
  have k := k a ha
  obtain ⟨p, l, e, R, s, m, args, below, meth, c, nc, ns, QQ⟩ := X
  intro F H locs ls hw hS hl hL hst
  have k := k F H locs ls hw hS hl hL
  obtain ⟨hx, hb, hml, hown, hts, hr, hlk, hK, hrm, hnc, hQQ⟩ := id F
  exact lv_dup hx hb hd (by rw [mC_cat]; exact hv) (k (fun w hq => by rcases List.mem_cons.mp hq with rfl | hq; exact hst _ List.mem_cons_self; exact hst w hq))
theorem s_dup2 {v w : mV} (hv : mCat v = 1) (hv2 : mCat w = 1) (hd : decode cc pc = .ok (.dup2, 1))
    (k : Sim G X cc nL own rt rm em f (pc + 1) L (v :: w :: v :: w :: st) h) : Sim G X cc nL own rt rm em f pc L (v :: w :: st) h := by
  intro a ha
  have k := k a ha
  obtain ⟨p, l, e, R, s, m, args, below, meth, c, nc, ns, QQ⟩ := X
  intro F H locs ls hw hS hl hL hst
  have k := k F H locs ls hw hS hl hL
  obtain ⟨hx, hb, hml, hown, hts, hr, hlk, hK, hrm, hnc, hQQ⟩ := id F
  exact lv_dup2_11 hx hb hd (by rw [mC_cat]; exact hv) (by rw [mC_cat]; exact hv2) (k (fun u hq => by rcases List.mem_cons.mp hq with rfl | hq; exact hst _ List.mem_cons_self; rcases List.mem_cons.mp hq with rfl | hq; exact hst _ (List.mem_cons_of_mem _ List.mem_cons_self); exact hst u hq))
theorem s_goto {off : Int} {tgt : Nat} (hd : decode cc pc = .ok (.goto off, 3)) (ht : (pc : Int) + off = (tgt : Int))
    (k : Sim G X cc nL own rt rm em f tgt L st h) : Sim G X cc nL own rt rm em f pc L st h := by
  intro a ha
  have k := k a ha
  obtain ⟨p, l, e, R, s, m, args, below, meth, c, nc, ns, QQ⟩ := X
  intro F H locs ls hw hS hl hL hst
  obtain ⟨hx, hb, hml, hown, hts, hr, hlk, hK, hrm, hnc, hQQ⟩ := id F
  exact lv_goto hx hb hd ht (k F H locs ls hw hS hl hL hst)
theorem s_if_eq {x : Int32} {ft ff : Option α} {off : Int} {tgt : Nat} (hd : decode cc pc = .ok (.ifCond .eq off, 3)) (ht : (pc : Int) + off = (tgt : Int))
    (kt : x = 0 → Sim G X cc nL own rt rm em ft tgt L st h) (kf : ¬ (x = 0) → Sim G X cc nL own rt rm em ff (pc + 3) L st h) : Sim G X cc nL own rt rm em (if x = 0 then ft else ff) pc L (.inl x :: st) h := by
  intro a ha
  obtain ⟨p, l, e, R, s, m, args, below, meth, c, nc, ns, QQ⟩ := X
  intro F H locs ls hw hS hl hL hst
  obtain ⟨hx, hb, hml, hown, hts, hr, hlk, hK, hrm, hnc, hQQ⟩ := id F
  refine lv_if_eq hx hb hd ht (fun q => ?_) (fun q => ?_)
  · have q2 : x = 0 := by first | exact q | exact Int32.not_lt.mp q | exact Int32.not_le.mp q | exact Int32.not_lt.mpr q | exact Int32.not_le.mpr q | exact not_not_intro q
    exact kt q2 a (by rw [if_pos q2] at ha; exact ha) F H locs ls hw hS hl hL (fun w hq => hst w (List.mem_cons_of_mem _ hq))
  · have q2 : ¬ (x = 0) := by first | exact q | exact Int32.not_lt.mp q | exact Int32.not_le.mp q | exact Int32.not_lt.mpr q | exact Int32.not_le.mpr q | exact not_not_intro q
    exact kf q2 a (by rw [if_neg q2] at ha; exact ha) F H locs ls hw hS hl hL (fun w hq => hst w (List.mem_cons_of_mem _ hq))
theorem s_if_ne {x : Int32} {ft ff : Option α} {off : Int} {tgt : Nat} (hd : decode cc pc = .ok (.ifCond .ne off, 3)) (ht : (pc : Int) + off = (tgt : Int))
    (kt : ¬ (x = 0) → Sim G X cc nL own rt rm em ft tgt L st h) (kf : x = 0 → Sim G X cc nL own rt rm em ff (pc + 3) L st h) : Sim G X cc nL own rt rm em (if x = 0 then ff else ft) pc L (.inl x :: st) h := by
  intro a ha
  obtain ⟨p, l, e, R, s, m, args, below, meth, c, nc, ns, QQ⟩ := X
  intro F H locs ls hw hS hl hL hst
  obtain ⟨hx, hb, hml, hown, hts, hr, hlk, hK, hrm, hnc, hQQ⟩ := id F
  refine lv_if_ne hx hb hd ht (fun q => ?_) (fun q => ?_)
  · have q2 : ¬ (x = 0) := by first | exact q | exact Int32.not_lt.mp q | exact Int32.not_le.mp q | exact Int32.not_lt.mpr q | exact Int32.not_le.mpr q | exact not_not_intro q
    exact kt q2 a (by rw [if_neg q2] at ha; exact ha) F H locs ls hw hS hl hL (fun w hq => hst w (List.mem_cons_of_mem _ hq))
  · have q2 : x = 0 := by first | exact q | exact Int32.not_lt.mp q | exact Int32.not_le.mp q | exact Int32.not_lt.mpr q | exact Int32.not_le.mpr q | exact not_not_intro q
    exact kf q2 a (by rw [if_pos q2] at ha; exact ha) F H locs ls hw hS hl hL (fun w hq => hst w (List.mem_cons_of_mem _ hq))
theorem s_if_lt {x : Int32} {ft ff : Option α} {off : Int} {tgt : Nat} (hd : decode cc pc = .ok (.ifCond .lt off, 3)) (ht : (pc : Int) + off = (tgt : Int))
    (kt : x < 0 → Sim G X cc nL own rt rm em ft tgt L st h) (kf : ¬ (x < 0) → Sim G X cc nL own rt rm em ff (pc + 3) L st h) : Sim G X cc nL own rt rm em (if x < 0 then ft else ff) pc L (.inl x :: st) h := by
  intro a ha
  obtain ⟨p, l, e, R, s, m, args, below, meth, c, nc, ns, QQ⟩ := X
  intro F H locs ls hw hS hl hL hst
  obtain ⟨hx, hb, hml, hown, hts, hr, hlk, hK, hrm, hnc, hQQ⟩ := id F
  refine lv_if_lt hx hb hd ht (fun q => ?_) (fun q => ?_)
  · have q2 : x < 0 := by first | exact q | exact Int32.not_lt.mp q | exact Int32.not_le.mp q | exact Int32.not_lt.mpr q | exact Int32.not_le.mpr q | exact not_not_intro q
    exact kt q2 a (by rw [if_pos q2] at ha; exact ha) F H locs ls hw hS hl hL (fun w hq => hst w (List.mem_cons_of_mem _ hq))
  · have q2 : ¬ (x < 0) := by first | exact q | exact Int32.not_lt.mp q | exact Int32.not_le.mp q | exact Int32.not_lt.mpr q | exact Int32.not_le.mpr q | exact not_not_intro q
    exact kf q2 a (by rw [if_neg q2] at ha; exact ha) F H locs ls hw hS hl hL (fun w hq => hst w (List.mem_cons_of_mem _ hq))
theorem s_if_ge {x : Int32} {ft ff : Option α} {off : Int} {tgt : Nat} (hd : decode cc pc = .ok (.ifCond .ge off, 3)) (ht : (pc : Int) + off = (tgt : Int))
    (kt : ¬ (x < 0) → Sim G X cc nL own rt rm em ft tgt L st h) (kf : x < 0 → Sim G X cc nL own rt rm em ff (pc + 3) L st h) : Sim G X cc nL own rt rm em (if x < 0 then ff else ft) pc L (.inl x :: st) h := by
  intro a ha
  obtain ⟨p, l, e, R, s, m, args, below, meth, c, nc, ns, QQ⟩ := X
  intro F H locs ls hw hS hl hL hst
  obtain ⟨hx, hb, hml, hown, hts, hr, hlk, hK, hrm, hnc, hQQ⟩ := id F
  refine lv_if_ge hx hb hd ht (fun q => ?_) (fun q => ?_)
  · have q2 : ¬ (x < 0) := by first | exact q | exact Int32.not_lt.mp q | exact Int32.not_le.mp q | exact Int32.not_lt.mpr q | exact Int32.not_le.mpr q | exact not_not_intro q
    exact kt q2 a (by rw [if_neg q2] at ha; exact ha) F H locs ls hw hS hl hL (fun w hq => hst w (List.mem_cons_of_mem _ hq))
  · have q2 : x < 0 := by first | exact q | exact Int32.not_lt.mp q | exact Int32.not_le.mp q | exact Int32.not_lt.mpr q | exact Int32.not_le.mpr q | exact not_not_intro q
    exact kf q2 a (by rw [if_pos q2] at ha; exact ha) F H locs ls hw hS hl hL (fun w hq => hst w (List.mem_cons_of_mem _ hq))
theorem s_if_gt {x : Int32} {ft ff : Option α} {off : Int} {tgt : Nat} (hd : decode cc pc = .ok (.ifCond .gt off, 3)) (ht : (pc : Int) + off = (tgt : Int))
    (kt : ¬ (x ≤ 0) → Sim G X cc nL own rt rm em ft tgt L st h) (kf : x ≤ 0 → Sim G X cc nL own rt rm em ff (pc + 3) L st h) : Sim G X cc nL own rt rm em (if x ≤ 0 then ff else ft) pc L (.inl x :: st) h := by
  intro a ha
  obtain ⟨p, l, e, R, s, m, args, below, meth, c, nc, ns, QQ⟩ := X
  intro F H locs ls hw hS hl hL hst
  obtain ⟨hx, hb, hml, hown, hts, hr, hlk, hK, hrm, hnc, hQQ⟩ := id F
  refine lv_if_gt hx hb hd ht (fun q => ?_) (fun q => ?_)
  · have q2 : ¬ (x ≤ 0) := by first | exact q | exact Int32.not_lt.mp q | exact Int32.not_le.mp q | exact Int32.not_lt.mpr q | exact Int32.not_le.mpr q | exact not_not_intro q
    exact kt q2 a (by rw [if_neg q2] at ha; exact ha) F H locs ls hw hS hl hL (fun w hq => hst w (List.mem_cons_of_mem _ hq))
  · have q2 : x ≤ 0 := by first | exact q | exact Int32.not_lt.mp q | exact Int32.not_le.mp q | exact Int32.not_lt.mpr q | exact Int32.not_le.mpr q | exact not_not_intro q
    exact kf q2 a (by rw [if_pos q2] at ha; exact ha) F H locs ls hw hS hl hL (fun w hq => hst w (List.mem_cons_of_mem _ hq))
theorem s_if_le {x : Int32} {ft ff : Option α} {off : Int} {tgt : Nat} (hd : decode cc pc = .ok (.ifCond .le off, 3)) (ht : (pc : Int) + off = (tgt : Int))
    (kt : x ≤ 0 → Sim G X cc nL own rt rm em ft tgt L st h) (kf : ¬ (x ≤ 0) → Sim G X cc nL own rt rm em ff (pc + 3) L st h) : Sim G X cc nL own rt rm em (if x ≤ 0 then ft else ff) pc L (.inl x :: st) h := by
  intro a ha
  obtain ⟨p, l, e, R, s, m, args, below, meth, c, nc, ns, QQ⟩ := X
  intro F H locs ls hw hS hl hL hst
  obtain ⟨hx, hb, hml, hown, hts, hr, hlk, hK, hrm, hnc, hQQ⟩ := id F
  refine lv_if_le hx hb hd ht (fun q => ?_) (fun q => ?_)
  · have q2 : x ≤ 0 := by first | exact q | exact Int32.not_lt.mp q | exact Int32.not_le.mp q | exact Int32.not_lt.mpr q | exact Int32.not_le.mpr q | exact not_not_intro q
    exact kt q2 a (by rw [if_pos q2] at ha; exact ha) F H locs ls hw hS hl hL (fun w hq => hst w (List.mem_cons_of_mem _ hq))
  · have q2 : ¬ (x ≤ 0) := by first | exact q | exact Int32.not_lt.mp q | exact Int32.not_le.mp q | exact Int32.not_lt.mpr q | exact Int32.not_le.mpr q | exact not_not_intro q
    exact kf q2 a (by rw [if_neg q2] at ha; exact ha) F H locs ls hw hS hl hL (fun w hq => hst w (List.mem_cons_of_mem _ hq))
theorem s_ic_eq {x y : Int32} {ft ff : Option α} {off : Int} {tgt : Nat} (hd : decode cc pc = .ok (.if_icmp .eq off, 3)) (ht : (pc : Int) + off = (tgt : Int))
    (kt : x = y → Sim G X cc nL own rt rm em ft tgt L st h) (kf : ¬ (x = y) → Sim G X cc nL own rt rm em ff (pc + 3) L st h) : Sim G X cc nL own rt rm em (if x = y then ft else ff) pc L (.inl y :: .inl x :: st) h := by
  intro a ha
  obtain ⟨p, l, e, R, s, m, args, below, meth, c, nc, ns, QQ⟩ := X
  intro F H locs ls hw hS hl hL hst
  obtain ⟨hx, hb, hml, hown, hts, hr, hlk, hK, hrm, hnc, hQQ⟩ := id F
  refine lv_icmp_eq hx hb hd ht (fun q => ?_) (fun q => ?_)
  · have q2 : x = y := by first | exact q | exact Int32.not_lt.mp q | exact Int32.not_le.mp q | exact Int32.not_lt.mpr q | exact Int32.not_le.mpr q | exact not_not_intro q
    exact kt q2 a (by rw [if_pos q2] at ha; exact ha) F H locs ls hw hS hl hL (fun w hq => hst w (List.mem_cons_of_mem _ (List.mem_cons_of_mem _ hq)))
  · have q2 : ¬ (x = y) := by first | exact q | exact Int32.not_lt.mp q | exact Int32.not_le.mp q | exact Int32.not_lt.mpr q | exact Int32.not_le.mpr q | exact not_not_intro q
    exact kf q2 a (by rw [if_neg q2] at ha; exact ha) F H locs ls hw hS hl hL (fun w hq => hst w (List.mem_cons_of_mem _ (List.mem_cons_of_mem _ hq)))
theorem s_ic_ne {x y : Int32} {ft ff : Option α} {off : Int} {tgt : Nat} (hd : decode cc pc = .ok (.if_icmp .ne off, 3)) (ht : (pc : Int) + off = (tgt : Int))
    (kt : ¬ (x = y) → Sim G X cc nL own rt rm em ft tgt L st h) (kf : x = y → Sim G X cc nL own rt rm em ff (pc + 3) L st h) : Sim G X cc nL own rt rm em (if x = y then ff else ft) pc L (.inl y :: .inl x :: st) h := by
  intro a ha
  obtain ⟨p, l, e, R, s, m, args, below, meth, c, nc, ns, QQ⟩ := X
  intro F H locs ls hw hS hl hL hst
  obtain ⟨hx, hb, hml, hown, hts, hr, hlk, hK, hrm, hnc, hQQ⟩ := id F
  refine lv_icmp_ne hx hb hd ht (fun q => ?_) (fun q => ?_)
  · have q2 : ¬ (x = y) := by first | exact q | exact Int32.not_lt.mp q | exact Int32.not_le.mp q | exact Int32.not_lt.mpr q | exact Int32.not_le.mpr q | exact not_not_intro q
    exact kt q2 a (by rw [if_neg q2] at ha; exact ha) F H locs ls hw hS hl hL (fun w hq => hst w (List.mem_cons_of_mem _ (List.mem_cons_of_mem _ hq)))
  · have q2 : x = y := by first | exact q | exact Int32.not_lt.mp q | exact Int32.not_le.mp q | exact Int32.not_lt.mpr q | exact Int32.not_le.mpr q | exact not_not_intro q
    exact kf q2 a (by rw [if_pos q2] at ha; exact ha) F H locs ls hw hS hl hL (fun w hq => hst w (List.mem_cons_of_mem _ (List.mem_cons_of_mem _ hq)))
theorem s_ic_lt {x y : Int32} {ft ff : Option α} {off : Int} {tgt : Nat} (hd : decode cc pc = .ok (.if_icmp .lt off, 3)) (ht : (pc : Int) + off = (tgt : Int))
    (kt : x < y → Sim G X cc nL own rt rm em ft tgt L st h) (kf : ¬ (x < y) → Sim G X cc nL own rt rm em ff (pc + 3) L st h) : Sim G X cc nL own rt rm em (if x < y then ft else ff) pc L (.inl y :: .inl x :: st) h := by
  intro a ha
  obtain ⟨p, l, e, R, s, m, args, below, meth, c, nc, ns, QQ⟩ := X
  intro F H locs ls hw hS hl hL hst
  obtain ⟨hx, hb, hml, hown, hts, hr, hlk, hK, hrm, hnc, hQQ⟩ := id F
  refine lv_icmp_lt hx hb hd ht (fun q => ?_) (fun q => ?_)
  · have q2 : x < y := by first | exact q | exact Int32.not_lt.mp q | exact Int32.not_le.mp q | exact Int32.not_lt.mpr q | exact Int32.not_le.mpr q | exact not_not_intro q
    exact kt q2 a (by rw [if_pos q2] at ha; exact ha) F H locs ls hw hS hl hL (fun w hq => hst w (List.mem_cons_of_mem _ (List.mem_cons_of_mem _ hq)))
  · have q2 : ¬ (x < y) := by first | exact q | exact Int32.not_lt.mp q | exact Int32.not_le.mp q | exact Int32.not_lt.mpr q | exact Int32.not_le.mpr q | exact not_not_intro q
    exact kf q2 a (by rw [if_neg q2] at ha; exact ha) F H locs ls hw hS hl hL (fun w hq => hst w (List.mem_cons_of_mem _ (List.mem_cons_of_mem _ hq)))
theorem s_ic_ge {x y : Int32} {ft ff : Option α} {off : Int} {tgt : Nat} (hd : decode cc pc = .ok (.if_icmp .ge off, 3)) (ht : (pc : Int) + off = (tgt : Int))
    (kt : ¬ (x < y) → Sim G X cc nL own rt rm em ft tgt L st h) (kf : x < y → Sim G X cc nL own rt rm em ff (pc + 3) L st h) : Sim G X cc nL own rt rm em (if x < y then ff else ft) pc L (.inl y :: .inl x :: st) h := by
  intro a ha
  obtain ⟨p, l, e, R, s, m, args, below, meth, c, nc, ns, QQ⟩ := X
  intro F H locs ls hw hS hl hL hst
  obtain ⟨hx, hb, hml, hown, hts, hr, hlk, hK, hrm, hnc, hQQ⟩ := id F
  refine lv_icmp_ge hx hb hd ht (fun q => ?_) (fun q => ?_)
  · have q2 : ¬ (x < y) := by first | exact q | exact Int32.not_lt.mp q | exact Int32.not_le.mp q | exact Int32.not_lt.mpr q | exact Int32.not_le.mpr q | exact not_not_intro q
    exact kt q2 a (by rw [if_neg q2] at ha; exact ha) F H locs ls hw hS hl hL (fun w hq => hst w (List.mem_cons_of_mem _ (List.mem_cons_of_mem _ hq)))
  · have q2 : x < y := by first | exact q | exact Int32.not_lt.mp q | exact Int32.not_le.mp q | exact Int32.not_lt.mpr q | exact Int32.not_le.mpr q | exact not_not_intro q
    exact kf q2 a (by rw [if_pos q2] at ha; exact ha) F H locs ls hw hS hl hL (fun w hq => hst w (List.mem_cons_of_mem _ (List.mem_cons_of_mem _ hq)))
theorem s_ic_gt {x y : Int32} {ft ff : Option α} {off : Int} {tgt : Nat} (hd : decode cc pc = .ok (.if_icmp .gt off, 3)) (ht : (pc : Int) + off = (tgt : Int))
    (kt : ¬ (x ≤ y) → Sim G X cc nL own rt rm em ft tgt L st h) (kf : x ≤ y → Sim G X cc nL own rt rm em ff (pc + 3) L st h) : Sim G X cc nL own rt rm em (if x ≤ y then ff else ft) pc L (.inl y :: .inl x :: st) h := by
  intro a ha
  obtain ⟨p, l, e, R, s, m, args, below, meth, c, nc, ns, QQ⟩ := X
  intro F H locs ls hw hS hl hL hst
  obtain ⟨hx, hb, hml, hown, hts, hr, hlk, hK, hrm, hnc, hQQ⟩ := id F
  refine lv_icmp_gt hx hb hd ht (fun q => ?_) (fun q => ?_)
  · have q2 : ¬ (x ≤ y) := by first | exact q | exact Int32.not_lt.mp q | exact Int32.not_le.mp q | exact Int32.not_lt.mpr q | exact Int32.not_le.mpr q | exact not_not_intro q
    exact kt q2 a (by rw [if_neg q2] at ha; exact ha) F H locs ls hw hS hl hL (fun w hq => hst w (List.mem_cons_of_mem _ (List.mem_cons_of_mem _ hq)))
  · have q2 : x ≤ y := by first | exact q | exact Int32.not_lt.mp q | exact Int32.not_le.mp q | exact Int32.not_lt.mpr q | exact Int32.not_le.mpr q | exact not_not_intro q
    exact kf q2 a (by rw [if_pos q2] at ha; exact ha) F H locs ls hw hS hl hL (fun w hq => hst w (List.mem_cons_of_mem _ (List.mem_cons_of_mem _ hq)))
theorem s_ic_le {x y : Int32} {ft ff : Option α} {off : Int} {tgt : Nat} (hd : decode cc pc = .ok (.if_icmp .le off, 3)) (ht : (pc : Int) + off = (tgt : Int))
    (kt : x ≤ y → Sim G X cc nL own rt rm em ft tgt L st h) (kf : ¬ (x ≤ y) → Sim G X cc nL own rt rm em ff (pc + 3) L st h) : Sim G X cc nL own rt rm em (if x ≤ y then ft else ff) pc L (.inl y :: .inl x :: st) h := by
  intro a ha
  obtain ⟨p, l, e, R, s, m, args, below, meth, c, nc, ns, QQ⟩ := X
  intro F H locs ls hw hS hl hL hst
  obtain ⟨hx, hb, hml, hown, hts, hr, hlk, hK, hrm, hnc, hQQ⟩ := id F
  refine lv_icmp_le hx hb hd ht (fun q => ?_) (fun q => ?_)
  · have q2 : x ≤ y := by first | exact q | exact Int32.not_lt.mp q | exact Int32.not_le.mp q | exact Int32.not_lt.mpr q | exact Int32.not_le.mpr q | exact not_not_intro q
    exact kt q2 a (by rw [if_pos q2] at ha; exact ha) F H locs ls hw hS hl hL (fun w hq => hst w (List.mem_cons_of_mem _ (List.mem_cons_of_mem _ hq)))
  · have q2 : ¬ (x ≤ y) := by first | exact q | exact Int32.not_lt.mp q | exact Int32.not_le.mp q | exact Int32.not_lt.mpr q | exact Int32.not_le.mpr q | exact not_not_intro q
    exact kf q2 a (by rw [if_neg q2] at ha; exact ha) F H locs ls hw hS hl hL (fun w hq => hst w (List.mem_cons_of_mem _ (List.mem_cons_of_mem _ hq)))
/-- a check of the function's own: the machine does nothing there -/
theorem s_chk {c : Prop} {_hc : Decidable c} (k : c → Sim G X cc nL own rt rm em f pc L st h) : Sim G X cc nL own rt rm em (if c then f else none) pc L st h := by
  intro a ha
  by_cases q : c
  · rw [if_pos q] at ha
    exact k q a ha
  · rw [if_neg q] at ha
    cases ha
theorem s_none : Sim G X cc nL own rt rm em (none : Option α) pc L st h := fun a ha => by cases ha
/-- what is so already is chosen -/
theorem s_pos {c : Prop} {_hc : Decidable c} {g : Option α} (q : c) (k : Sim G X cc nL own rt rm em f pc L st h) : Sim G X cc nL own rt rm em (if c then f else g) pc L st h := by rw [if_pos q]; exact k
theorem s_neg {c : Prop} {_hc : Decidable c} {g : Option α} (q : ¬ c) (k : Sim G X cc nL own rt rm em f pc L st h) : Sim G X cc nL own rt rm em (if c then g else f) pc L st h := by rw [if_neg q]; exact k
/-- fewer locals, in another order -/
theorem s_loc {L' : List (Nat × mV)} (ks : List Nat) (hk : ks.filterMap (fun i => L[i]?) = L') (k : Sim G X cc nL own rt rm em f pc L' st h) : Sim G X cc nL own rt rm em f pc L st h := by
  intro a ha
  have k := k a ha
  obtain ⟨p, l, e, R, s, m, args, below, meth, c, nc, ns, QQ⟩ := X
  intro F H locs ls hw hS hl hL hst
  have hs : ∀ q ∈ L', q ∈ L := fun q hq => by
    rw [← hk] at hq
    obtain ⟨i, -, hi⟩ := List.mem_filterMap.mp hq
    exact List.mem_of_getElem? hi
  exact k F H locs ls hw hS ⟨hl.1, hl.2.1, fun q hq => by
    obtain ⟨r, hr, rfl⟩ := List.mem_map.mp hq
    exact hl.2.2 _ (List.mem_map.mpr ⟨r, hs r hr, rfl⟩)⟩ (fun q hq => hL q (hs q hq)) hst
theorem s_ireturn {em : Int32 × mH → mRes} {x : Int32} (hem : em = eI) (hrt : rt = some .int) (hd : decode cc pc = .ok (.ireturn, 1)) (hz : rm.cells = 0 := by rfl) : Sim G X cc nL own rt rm em (some (x, h)) pc L [.inl x] h := by
  intro a ha
  cases ha
  subst hem
  obtain ⟨p, l, e, R, s, m, args, below, meth, c, nc, ns, QQ⟩ := X
  intro F H locs ls hw hS hl hL hst
  obtain ⟨hx, hb, hml, hown, hts, hr, hlk, hK, hrm, hnc, hQQ⟩ := id F
  obtain ⟨rfl, rfl, rfl⟩ := hQQ hz
  exact W.iret hx hb (hr.trans hrt) (fun t ht _ => ⟨rfl, fun v hv => (by cases hv; exact trivial), ht ▸ hw, hS.F ht⟩) hS.2.2 hd hlk
theorem s_zreturn {em : Int32 × mH → mRes} {x : Int32} (hem : em = eI) (hrt : rt = some .boolean) (hx01 : x = 0 ∨ x = 1) (hd : decode cc pc = .ok (.ireturn, 1)) (hz : rm.cells = 0 := by rfl) : Sim G X cc nL own rt rm em (some (x, h)) pc L [.inl x] h := by
  intro a ha
  cases ha
  subst hem
  obtain ⟨p, l, e, R, s, m, args, below, meth, c, nc, ns, QQ⟩ := X
  intro F H locs ls hw hS hl hL hst
  obtain ⟨hx, hb, hml, hown, hts, hr, hlk, hK, hrm, hnc, hQQ⟩ := id F
  obtain ⟨rfl, rfl, rfl⟩ := hQQ hz
  exact W.zret hx hb (hr.trans hrt) (by rcases hx01 with rfl | rfl <;> decide) (fun t ht _ => ⟨rfl, fun v hv => (by cases hv; exact trivial), ht ▸ hw, hS.F ht⟩) hS.2.2 hd hlk
theorem s_lreturn {em : Int64 × mH → mRes} {x : Int64} (hem : em = eJ) (hrt : rt = some .long) (hd : decode cc pc = .ok (.lreturn, 1)) (hz : rm.cells = 0 := by rfl) : Sim G X cc nL own rt rm em (some (x, h)) pc L [.inr (.inl x)] h := by
  intro a ha
  cases ha
  subst hem
  obtain ⟨p, l, e, R, s, m, args, below, meth, c, nc, ns, QQ⟩ := X
  intro F H locs ls hw hS hl hL hst
  obtain ⟨hx, hb, hml, hown, hts, hr, hlk, hK, hrm, hnc, hQQ⟩ := id F
  obtain ⟨rfl, rfl, rfl⟩ := hQQ hz
  exact W.lret hx hb (hr.trans hrt) (fun t ht _ => ⟨rfl, fun v hv => (by cases hv; exact trivial), ht ▸ hw, hS.F ht⟩) hS.2.2 hd hlk
theorem s_return {em : mH → mRes} (hem : em = eV) (hrt : rt = none) (hd : decode cc pc = .ok (.return_, 1)) (hz : rm.cells = 0 := by rfl) : Sim G X cc nL own rt rm em (some h) pc L [] h := by
  intro a ha
  cases ha
  subst hem
  obtain ⟨p, l, e, R, s, m, args, below, meth, c, nc, ns, QQ⟩ := X
  intro F H locs ls hw hS hl hL hst
  obtain ⟨hx, hb, hml, hown, hts, hr, hlk, hK, hrm, hnc, hQQ⟩ := id F
  obtain ⟨rfl, rfl, rfl⟩ := hQQ hz
  exact W.vret hx hb (hr.trans hrt) (fun t ht _ => ⟨rfl, fun v hv => (by cases hv), ht ▸ hw, hS.F ht⟩) hS.2.2 hd hlk
/-- a tableswitch: the function tells the same place -/
theorem s_table {x : Int32} {dflt lo hi : Int} {offs : Array Int} {len : Nat} (hd : decode cc pc = .ok (.tableswitch dflt lo hi offs, len))
    (tg : Nat) (ht : (pc : Int) + (if x.toInt < lo ∨ hi < x.toInt then dflt else offs.getD (x.toInt - lo).toNat 0) = (tg : Int)) (hz : (offs.size : Int) = hi - lo + 1)
    (k : Sim G X cc nL own rt rm em f tg L st h) : Sim G X cc nL own rt rm em f pc L (.inl x :: st) h := by
  intro a ha
  have k := k a ha
  obtain ⟨p, l, e, R, s, m, args, below, meth, c, nc, ns, QQ⟩ := X
  intro F H locs ls hw hS hl hL hst
  obtain ⟨hx, hb, hml, hown, hts, hr, hlk, hK, hrm, hnc, hQQ⟩ := id F
  have k := k F H locs ls hw hS hl hL (fun w hq => hst w (List.mem_cons_of_mem _ hq))
  by_cases q : x.toInt < lo ∨ hi < x.toInt
  · rw [if_pos q] at ht
    exact lv_tableOut hx hb hd q ht k
  · rw [if_neg q] at ht
    have q1 : ¬ x.toInt < lo := fun z => q (Or.inl z)
    have q2 : ¬ hi < x.toInt := fun z => q (Or.inr z)
    have hlt : (x.toInt - lo).toNat < offs.size := by omega
    refine lv_tableIn hx hb hd q1 q2 (off := offs.getD (x.toInt - lo).toNat 0) ?_ ht k
    simp [Array.getD, hlt]
theorem s_lookup {x : Int32} {dflt : Int} {ps : Array (Int × Int)} {len : Nat} (hd : decode cc pc = .ok (.lookupswitch dflt ps, len)) (hp : (ps.toList.zip (ps.toList.drop 1)).all (fun (a, next) => a.1 < next.1) = true)
    (tg : Nat) (ht : (pc : Int) + Op.lookupswitch.offset ps.toList dflt x.toInt = (tg : Int))
    (k : Sim G X cc nL own rt rm em f tg L st h) : Sim G X cc nL own rt rm em f pc L (.inl x :: st) h := by
  intro a ha
  have k := k a ha
  obtain ⟨p, l, e, R, s, m, args, below, meth, c, nc, ns, QQ⟩ := X
  intro F H locs ls hw hS hl hL hst
  obtain ⟨hx, hb, hml, hown, hts, hr, hlk, hK, hrm, hnc, hQQ⟩ := id F
  exact lv_lookup hx hb hd hp rfl ht (k F H locs ls hw hS hl hL (fun w hq => hst w (List.mem_cons_of_mem _ hq)))
end MR
