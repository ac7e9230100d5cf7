/-! ===== the same rows in short: what is fixed of a field, an array, a call, in one name ===== -/
def mGetI (own : String) (idx t k : Nat) : Prop := ∃ (c : Nat) (C : String) (T : u_T), mCls c C T ∧ mSh t = .inl c ∧ t ≠ 99 ∧ k < mNs c ∧ mIsRf (mTy c k) = false ∧ mTy c k ≠ .long ∧ Cond.fieldLink own idx (T k).1 (T k).2.1 (T k).2.2.1 ∈ mTb
def mPutI (own : String) (idx t k : Nat) (ty : FieldType) : Prop := ∃ (c : Nat) (C : String) (T : u_T), mCls c C T ∧ mSh t = .inl c ∧ t ≠ 99 ∧ k < mNs c ∧ mTy c k = ty ∧ mIsRf ty = false ∧ ty ≠ .long ∧ (T k).2.2.2 = false ∧ Cond.fieldLink own idx (T k).1 (T k).2.1 (T k).2.2.1 ∈ mTb
def mGetJ (own : String) (idx t k : Nat) : Prop := ∃ (c : Nat) (C : String) (T : u_T), mCls c C T ∧ mSh t = .inl c ∧ t ≠ 99 ∧ k < mNs c ∧ mTy c k = .long ∧ Cond.fieldLink own idx (T k).1 (T k).2.1 (T k).2.2.1 ∈ mTb
def mPutJ (own : String) (idx t k : Nat) : Prop := ∃ (c : Nat) (C : String) (T : u_T), mCls c C T ∧ mSh t = .inl c ∧ t ≠ 99 ∧ k < mNs c ∧ mTy c k = .long ∧ (T k).2.2.2 = false ∧ Cond.fieldLink own idx (T k).1 (T k).2.1 (T k).2.2.1 ∈ mTb
def mGetR (own : String) (idx t k i : Nat) (r : mR) : Prop := ∃ (c : Nat) (C : String) (T : u_T), mCls c C T ∧ mSh t = .inl c ∧ t ≠ 99 ∧ k < mNs c ∧ mIsRf (mTy c k) = true ∧ Cond.fieldLink own idx (T k).1 (T k).2.1 (T k).2.2.1 ∈ mTb ∧ mRf t i k = some r ∧ (i < mCn t → r.2 < mCn r.1)
def mArrT (ty : FieldType) (t n : Nat) : Prop := mSh t = .inr (ty, n) ∧ t ≠ 99
def mArrR (t n i : Nat) (x : Int32) (r : mR) : Prop := ∃ (ty : FieldType) (t0 : Nat), mSh t = .inr (ty, n) ∧ t ≠ 99 ∧ mIsRf ty = true ∧ mTyL[t0]? = some ty ∧ mRf t i x.toNatClampNeg = some r ∧ (i < mCn t → x.toNatClampNeg < n → r.2 < mCn r.1)
def mVi (own : String) (idx : Nat) (y : MethodName) (t : Nat) : Prop := ∃ (c : Nat) (T : u_T), mCls c y.cls T ∧ mSh t = .inl c ∧ t ≠ 99 ∧ Cond.methodLink own idx y ∈ mTb ∧ Cond.instanceMethod y ∈ mTb ∧ Cond.selects y.cls y y ∈ mTb
def mSi (own : String) (idx : Nat) (y : MethodName) : Prop := (Cond.methodLink own idx y ∈ mTb ∨ ∃ host, Cond.methodLinkNest own idx y host ∈ mNw) ∧ Cond.static y ∈ mTb
def mRoom (a b : Nat) : Room := { frames := a, cells := 0, slots := 0, locals := b }
/-- enough for any loop -/
def mFu : Nat := 8589934592
section MS
variable {α β : Type} {G : mG} {X : mX} {cc : ByteArray} {nL : Nat} {own : String} {rt : Option FieldType} {rm : Room} {em : α → mRes} {f : Option α} {pc : Nat} {L : List (Nat × mV)} {st : List mV} {h : mH}
theorem s_gi {t i k idx : Nat} (hg : mGetI own idx t k) (hd : decode cc pc = .ok (.getfield idx, 3)) (kk : Sim G X cc nL own rt rm em f (pc + 3) L (.inl (h.1 t i k) :: st) h) : Sim G X cc nL own rt rm em f pc L (.inr (.inr (t, i)) :: st) h := by
  obtain ⟨c, C, T, h1, h2, h3, h4, h5, h6, h7⟩ := hg
  exact s_geti h1 h2 h3 h4 h5 h6 h7 hd kk
theorem s_gj {t i k idx : Nat} (hg : mGetJ own idx t k) (hd : decode cc pc = .ok (.getfield idx, 3)) (kk : Sim G X cc nL own rt rm em f (pc + 3) L (.inr (.inl (h.2 t i k)) :: st) h) : Sim G X cc nL own rt rm em f pc L (.inr (.inr (t, i)) :: st) h := by
  obtain ⟨c, C, T, h1, h2, h3, h4, h5, h6⟩ := hg
  exact s_getj h1 h2 h3 h4 h5 h6 hd kk
theorem s_pj {t i k idx : Nat} {x : Int64} (hg : mPutJ own idx t k) (hd : decode cc pc = .ok (.putfield idx, 3)) (kk : Sim G X cc nL own rt rm em f (pc + 3) L st (uJ h t i k x)) : Sim G X cc nL own rt rm em f pc L (.inr (.inl x) :: .inr (.inr (t, i)) :: st) h := by
  obtain ⟨c, C, T, h1, h2, h3, h4, h5, h6, h7⟩ := hg
  exact s_putj h1 h2 h3 h4 h5 h6 h7 hd kk
theorem s_gr {t i k idx : Nat} {r : mR} (hg : mGetR own idx t k i r) (hd : decode cc pc = .ok (.getfield idx, 3)) (kk : Sim G X cc nL own rt rm em f (pc + 3) L (.inr (.inr r) :: st) h) : Sim G X cc nL own rt rm em f pc L (.inr (.inr (t, i)) :: st) h := by
  obtain ⟨c, C, T, h1, h2, h3, h4, h5, h6, h7, h8⟩ := hg
  exact s_getr h1 h2 h3 h4 h5 h6 h7 h8 hd kk
theorem s_pi {t i k idx : Nat} {x : Int32} (hg : mPutI own idx t k .int) (hd : decode cc pc = .ok (.putfield idx, 3)) (kk : Sim G X cc nL own rt rm em f (pc + 3) L st (uI h t i k x)) : Sim G X cc nL own rt rm em f pc L (.inl x :: .inr (.inr (t, i)) :: st) h := by
  obtain ⟨c, C, T, h1, h2, h3, h4, h5, h6, h7, h8, h9⟩ := hg
  exact s_puti h1 h2 h3 h4 h5 h6 h7 rfl rfl h8 h9 hd kk
theorem s_pz {t i k idx : Nat} {x : Int32} (hg : mPutI own idx t k .boolean) (hx : x = 0 ∨ x = 1) (hd : decode cc pc = .ok (.putfield idx, 3)) (kk : Sim G X cc nL own rt rm em f (pc + 3) L st (uI h t i k x)) : Sim G X cc nL own rt rm em f pc L (.inl x :: .inr (.inr (t, i)) :: st) h := by
  obtain ⟨c, C, T, h1, h2, h3, h4, h5, h6, h7, h8, h9⟩ := hg
  exact s_puti h1 h2 h3 h4 h5 h6 h7 (by rcases hx with rfl | rfl <;> decide) (by rcases hx with rfl | rfl <;> decide) h8 h9 hd kk
theorem s_ial {t i n : Nat} {x : Int32} (hg : mArrT .int t n) (hin : mIn x n = true) (hd : decode cc pc = .ok (.iaload, 1)) (kk : Sim G X cc nL own rt rm em f (pc + 1) L (.inl (h.1 t i x.toNatClampNeg) :: st) h) : Sim G X cc nL own rt rm em f pc L (.inl x :: .inr (.inr (t, i)) :: st) h := s_iaload hg.1 hg.2 hin hd kk
theorem s_bal {t i n : Nat} {x : Int32} (hg : mArrT .boolean t n) (hin : mIn x n = true) (hd : decode cc pc = .ok (.baload, 1)) (kk : Sim G X cc nL own rt rm em f (pc + 1) L (.inl (h.1 t i x.toNatClampNeg) :: st) h) : Sim G X cc nL own rt rm em f pc L (.inl x :: .inr (.inr (t, i)) :: st) h := s_baload hg.1 hg.2 hin hd kk
theorem s_lal {t i n : Nat} {x : Int32} (hg : mArrT .long t n) (hin : mIn x n = true) (hd : decode cc pc = .ok (.laload, 1)) (kk : Sim G X cc nL own rt rm em f (pc + 1) L (.inr (.inl (h.2 t i x.toNatClampNeg)) :: st) h) : Sim G X cc nL own rt rm em f pc L (.inl x :: .inr (.inr (t, i)) :: st) h := s_laload hg.1 hg.2 hin hd kk
theorem s_ias {t i n : Nat} {x v : Int32} (hg : mArrT .int t n) (hin : mIn x n = true) (hd : decode cc pc = .ok (.iastore, 1)) (kk : Sim G X cc nL own rt rm em f (pc + 1) L st (uI h t i x.toNatClampNeg v)) : Sim G X cc nL own rt rm em f pc L (.inl v :: .inl x :: .inr (.inr (t, i)) :: st) h := s_iastore hg.1 hg.2 hin hd kk
theorem s_bas {t i n : Nat} {x v : Int32} (hg : mArrT .boolean t n) (hin : mIn x n = true) (hv : v = 0 ∨ v = 1) (hd : decode cc pc = .ok (.bastore, 1)) (kk : Sim G X cc nL own rt rm em f (pc + 1) L st (uI h t i x.toNatClampNeg v)) : Sim G X cc nL own rt rm em f pc L (.inl v :: .inl x :: .inr (.inr (t, i)) :: st) h := s_bastore hg.1 hg.2 hin hv hd kk
theorem s_las {t i n : Nat} {x : Int32} {v : Int64} (hg : mArrT .long t n) (hin : mIn x n = true) (hd : decode cc pc = .ok (.lastore, 1)) (kk : Sim G X cc nL own rt rm em f (pc + 1) L st (uJ h t i x.toNatClampNeg v)) : Sim G X cc nL own rt rm em f pc L (.inr (.inl v) :: .inl x :: .inr (.inr (t, i)) :: st) h := s_lastore hg.1 hg.2 hin hd kk
theorem s_aal {t i n : Nat} {x : Int32} {r : mR} (hg : mArrR t n i x r) (hin : mIn x n = true) (hd : decode cc pc = .ok (.aaload, 1)) (kk : Sim G X cc nL own rt rm em f (pc + 1) L (.inr (.inr r) :: st) h) : Sim G X cc nL own rt rm em f pc L (.inl x :: .inr (.inr (t, i)) :: st) h := by
  obtain ⟨ty, t0, h1, h2, h3, h4, h5, h6⟩ := hg
  exact s_aaload h1 h2 h3 h4 hin h5 h6 hd kk
theorem s_iload0 {x : Int32} (q : Nat) (hq : L[q]? = some (0, .inl x)) (hd : decode cc pc = .ok (.iload_n 0, 1)) (k : Sim G X cc nL own rt rm em f (pc + 1) L (.inl x :: st) h) : Sim G X cc nL own rt rm em f pc L st h := s_iload_n (n := 0) (i := 0) rfl q hq hd k
theorem s_lload0 {x : Int64} (q : Nat) (hq : L[q]? = some (0, .inr (.inl x))) (hd : decode cc pc = .ok (.lload_n 0, 1)) (k : Sim G X cc nL own rt rm em f (pc + 1) L (.inr (.inl x) :: st) h) : Sim G X cc nL own rt rm em f pc L st h := s_lload_n (n := 0) (i := 0) rfl q hq hd k
theorem s_aload0 {x : mR} (q : Nat) (hq : L[q]? = some (0, .inr (.inr x))) (hd : decode cc pc = .ok (.aload_n 0, 1)) (k : Sim G X cc nL own rt rm em f (pc + 1) L (.inr (.inr x) :: st) h) : Sim G X cc nL own rt rm em f pc L st h := s_aload_n (n := 0) (i := 0) rfl q hq hd k
theorem s_istore0 {x : Int32} (L' : List (Nat × mV)) (hn : Nat.ble 1 nL = true) (hL' : (0, .inl x) :: L.filter (fun q => !(q.1 == 0) && !(q.1 + 1 == 0 && mCat q.2 == 2)) = L') (hd : decode cc pc = .ok (.istore_n 0, 1)) (k : Sim G X cc nL own rt rm em f (pc + 1) L' st h) : Sim G X cc nL own rt rm em f pc L (.inl x :: st) h := s_istore_n (n := 0) (i := 0) rfl (Nat.le_of_ble_eq_true hn) hL' hd k
theorem s_astore0 {x : mR} (L' : List (Nat × mV)) (hn : Nat.ble 1 nL = true) (hL' : (0, .inr (.inr x)) :: L.filter (fun q => !(q.1 == 0) && !(q.1 + 1 == 0 && mCat q.2 == 2)) = L') (hd : decode cc pc = .ok (.astore_n 0, 1)) (k : Sim G X cc nL own rt rm em f (pc + 1) L' st h) : Sim G X cc nL own rt rm em f pc L (.inr (.inr x) :: st) h := s_astore_n (n := 0) (i := 0) rfl (Nat.le_of_ble_eq_true hn) hL' hd k
theorem s_lstore0 {x : Int64} (L' : List (Nat × mV)) (hn : Nat.ble 2 nL = true) (hL' : (0, .inr (.inl x)) :: L.filter (fun q => !(q.1 == 0) && (!(q.1 == 0 + 1) && !(q.1 + 1 == 0 && mCat q.2 == 2))) = L') (hd : decode cc pc = .ok (.lstore_n 0, 1)) (k : Sim G X cc nL own rt rm em f (pc + 1) L' st h) : Sim G X cc nL own rt rm em f pc L (.inr (.inl x) :: st) h := s_lstore_n (n := 0) (i := 0) rfl (Nat.le_of_ble_eq_true hn) hL' hd k
theorem s_iload1 {x : Int32} (q : Nat) (hq : L[q]? = some (1, .inl x)) (hd : decode cc pc = .ok (.iload_n 1, 1)) (k : Sim G X cc nL own rt rm em f (pc + 1) L (.inl x :: st) h) : Sim G X cc nL own rt rm em f pc L st h := s_iload_n (n := 1) (i := 1) rfl q hq hd k
theorem s_lload1 {x : Int64} (q : Nat) (hq : L[q]? = some (1, .inr (.inl x))) (hd : decode cc pc = .ok (.lload_n 1, 1)) (k : Sim G X cc nL own rt rm em f (pc + 1) L (.inr (.inl x) :: st) h) : Sim G X cc nL own rt rm em f pc L st h := s_lload_n (n := 1) (i := 1) rfl q hq hd k
theorem s_aload1 {x : mR} (q : Nat) (hq : L[q]? = some (1, .inr (.inr x))) (hd : decode cc pc = .ok (.aload_n 1, 1)) (k : Sim G X cc nL own rt rm em f (pc + 1) L (.inr (.inr x) :: st) h) : Sim G X cc nL own rt rm em f pc L st h := s_aload_n (n := 1) (i := 1) rfl q hq hd k
theorem s_istore1 {x : Int32} (L' : List (Nat × mV)) (hn : Nat.ble 2 nL = true) (hL' : (1, .inl x) :: L.filter (fun q => !(q.1 == 1) && !(q.1 + 1 == 1 && mCat q.2 == 2)) = L') (hd : decode cc pc = .ok (.istore_n 1, 1)) (k : Sim G X cc nL own rt rm em f (pc + 1) L' st h) : Sim G X cc nL own rt rm em f pc L (.inl x :: st) h := s_istore_n (n := 1) (i := 1) rfl (Nat.le_of_ble_eq_true hn) hL' hd k
theorem s_astore1 {x : mR} (L' : List (Nat × mV)) (hn : Nat.ble 2 nL = true) (hL' : (1, .inr (.inr x)) :: L.filter (fun q => !(q.1 == 1) && !(q.1 + 1 == 1 && mCat q.2 == 2)) = L') (hd : decode cc pc = .ok (.astore_n 1, 1)) (k : Sim G X cc nL own rt rm em f (pc + 1) L' st h) : Sim G X cc nL own rt rm em f pc L (.inr (.inr x) :: st) h := s_astore_n (n := 1) (i := 1) rfl (Nat.le_of_ble_eq_true hn) hL' hd k
theorem s_lstore1 {x : Int64} (L' : List (Nat × mV)) (hn : Nat.ble 3 nL = true) (hL' : (1, .inr (.inl x)) :: L.filter (fun q => !(q.1 == 1) && (!(q.1 == 1 + 1) && !(q.1 + 1 == 1 && mCat q.2 == 2))) = L') (hd : decode cc pc = .ok (.lstore_n 1, 1)) (k : Sim G X cc nL own rt rm em f (pc + 1) L' st h) : Sim G X cc nL own rt rm em f pc L (.inr (.inl x) :: st) h := s_lstore_n (n := 1) (i := 1) rfl (Nat.le_of_ble_eq_true hn) hL' hd k
theorem s_iload2 {x : Int32} (q : Nat) (hq : L[q]? = some (2, .inl x)) (hd : decode cc pc = .ok (.iload_n 2, 1)) (k : Sim G X cc nL own rt rm em f (pc + 1) L (.inl x :: st) h) : Sim G X cc nL own rt rm em f pc L st h := s_iload_n (n := 2) (i := 2) rfl q hq hd k
theorem s_lload2 {x : Int64} (q : Nat) (hq : L[q]? = some (2, .inr (.inl x))) (hd : decode cc pc = .ok (.lload_n 2, 1)) (k : Sim G X cc nL own rt rm em f (pc + 1) L (.inr (.inl x) :: st) h) : Sim G X cc nL own rt rm em f pc L st h := s_lload_n (n := 2) (i := 2) rfl q hq hd k
theorem s_aload2 {x : mR} (q : Nat) (hq : L[q]? = some (2, .inr (.inr x))) (hd : decode cc pc = .ok (.aload_n 2, 1)) (k : Sim G X cc nL own rt rm em f (pc + 1) L (.inr (.inr x) :: st) h) : Sim G X cc nL own rt rm em f pc L st h := s_aload_n (n := 2) (i := 2) rfl q hq hd k
theorem s_istore2 {x : Int32} (L' : List (Nat × mV)) (hn : Nat.ble 3 nL = true) (hL' : (2, .inl x) :: L.filter (fun q => !(q.1 == 2) && !(q.1 + 1 == 2 && mCat q.2 == 2)) = L') (hd : decode cc pc = .ok (.istore_n 2, 1)) (k : Sim G X cc nL own rt rm em f (pc + 1) L' st h) : Sim G X cc nL own rt rm em f pc L (.inl x :: st) h := s_istore_n (n := 2) (i := 2) rfl (Nat.le_of_ble_eq_true hn) hL' hd k
theorem s_astore2 {x : mR} (L' : List (Nat × mV)) (hn : Nat.ble 3 nL = true) (hL' : (2, .inr (.inr x)) :: L.filter (fun q => !(q.1 == 2) && !(q.1 + 1 == 2 && mCat q.2 == 2)) = L') (hd : decode cc pc = .ok (.astore_n 2, 1)) (k : Sim G X cc nL own rt rm em f (pc + 1) L' st h) : Sim G X cc nL own rt rm em f pc L (.inr (.inr x) :: st) h := s_astore_n (n := 2) (i := 2) rfl (Nat.le_of_ble_eq_true hn) hL' hd k
theorem s_lstore2 {x : Int64} (L' : List (Nat × mV)) (hn : Nat.ble 4 nL = true) (hL' : (2, .inr (.inl x)) :: L.filter (fun q => !(q.1 == 2) && (!(q.1 == 2 + 1) && !(q.1 + 1 == 2 && mCat q.2 == 2))) = L') (hd : decode cc pc = .ok (.lstore_n 2, 1)) (k : Sim G X cc nL own rt rm em f (pc + 1) L' st h) : Sim G X cc nL own rt rm em f pc L (.inr (.inl x) :: st) h := s_lstore_n (n := 2) (i := 2) rfl (Nat.le_of_ble_eq_true hn) hL' hd k
theorem s_iload3 {x : Int32} (q : Nat) (hq : L[q]? = some (3, .inl x)) (hd : decode cc pc = .ok (.iload_n 3, 1)) (k : Sim G X cc nL own rt rm em f (pc + 1) L (.inl x :: st) h) : Sim G X cc nL own rt rm em f pc L st h := s_iload_n (n := 3) (i := 3) rfl q hq hd k
theorem s_lload3 {x : Int64} (q : Nat) (hq : L[q]? = some (3, .inr (.inl x))) (hd : decode cc pc = .ok (.lload_n 3, 1)) (k : Sim G X cc nL own rt rm em f (pc + 1) L (.inr (.inl x) :: st) h) : Sim G X cc nL own rt rm em f pc L st h := s_lload_n (n := 3) (i := 3) rfl q hq hd k
theorem s_aload3 {x : mR} (q : Nat) (hq : L[q]? = some (3, .inr (.inr x))) (hd : decode cc pc = .ok (.aload_n 3, 1)) (k : Sim G X cc nL own rt rm em f (pc + 1) L (.inr (.inr x) :: st) h) : Sim G X cc nL own rt rm em f pc L st h := s_aload_n (n := 3) (i := 3) rfl q hq hd k
theorem s_istore3 {x : Int32} (L' : List (Nat × mV)) (hn : Nat.ble 4 nL = true) (hL' : (3, .inl x) :: L.filter (fun q => !(q.1 == 3) && !(q.1 + 1 == 3 && mCat q.2 == 2)) = L') (hd : decode cc pc = .ok (.istore_n 3, 1)) (k : Sim G X cc nL own rt rm em f (pc + 1) L' st h) : Sim G X cc nL own rt rm em f pc L (.inl x :: st) h := s_istore_n (n := 3) (i := 3) rfl (Nat.le_of_ble_eq_true hn) hL' hd k
theorem s_astore3 {x : mR} (L' : List (Nat × mV)) (hn : Nat.ble 4 nL = true) (hL' : (3, .inr (.inr x)) :: L.filter (fun q => !(q.1 == 3) && !(q.1 + 1 == 3 && mCat q.2 == 2)) = L') (hd : decode cc pc = .ok (.astore_n 3, 1)) (k : Sim G X cc nL own rt rm em f (pc + 1) L' st h) : Sim G X cc nL own rt rm em f pc L (.inr (.inr x) :: st) h := s_astore_n (n := 3) (i := 3) rfl (Nat.le_of_ble_eq_true hn) hL' hd k
theorem s_lstore3 {x : Int64} (L' : List (Nat × mV)) (hn : Nat.ble 5 nL = true) (hL' : (3, .inr (.inl x)) :: L.filter (fun q => !(q.1 == 3) && (!(q.1 == 3 + 1) && !(q.1 + 1 == 3 && mCat q.2 == 2))) = L') (hd : decode cc pc = .ok (.lstore_n 3, 1)) (k : Sim G X cc nL own rt rm em f (pc + 1) L' st h) : Sim G X cc nL own rt rm em f pc L (.inr (.inl x) :: st) h := s_lstore_n (n := 3) (i := 3) rfl (Nat.le_of_ble_eq_true hn) hL' hd k
theorem s_istorew {i : Nat} {x : Int32} (L' : List (Nat × mV)) (hn : Nat.ble (i + 1) nL = true) (hL' : (i, .inl x) :: L.filter (fun q => !(q.1 == i) && !(q.1 + 1 == i && mCat q.2 == 2)) = L') (hd : decode cc pc = .ok (.istore i, 2)) (k : Sim G X cc nL own rt rm em f (pc + 2) L' st h) : Sim G X cc nL own rt rm em f pc L (.inl x :: st) h := s_istore (Nat.le_of_ble_eq_true hn) hL' hd k
theorem s_astorew {i : Nat} {x : mR} (L' : List (Nat × mV)) (hn : Nat.ble (i + 1) nL = true) (hL' : (i, .inr (.inr x)) :: L.filter (fun q => !(q.1 == i) && !(q.1 + 1 == i && mCat q.2 == 2)) = L') (hd : decode cc pc = .ok (.astore i, 2)) (k : Sim G X cc nL own rt rm em f (pc + 2) L' st h) : Sim G X cc nL own rt rm em f pc L (.inr (.inr x) :: st) h := s_astore (Nat.le_of_ble_eq_true hn) hL' hd k
theorem s_lstorew {i : Nat} {x : Int64} (L' : List (Nat × mV)) (hn : Nat.ble (i + 2) nL = true) (hL' : (i, .inr (.inl x)) :: L.filter (fun q => !(q.1 == i) && (!(q.1 == i + 1) && !(q.1 + 1 == i && mCat q.2 == 2))) = L') (hd : decode cc pc = .ok (.lstore i, 2)) (k : Sim G X cc nL own rt rm em f (pc + 2) L' st h) : Sim G X cc nL own rt rm em f pc L (.inr (.inl x) :: st) h := s_lstore (Nat.le_of_ble_eq_true hn) hL' hd k
theorem s_iincw {i : Nat} {n : Int} {x : Int32} (v : Int32) (hv : Int32.ofInt n = v) (q : Nat) (L' : List (Nat × mV)) (hq : L[q]? = some (i, .inl x)) (hn : Nat.ble (i + 1) nL = true) (hL' : (i, .inl (x + v)) :: L.filter (fun q => !(q.1 == i) && !(q.1 + 1 == i && mCat q.2 == 2)) = L') (hd : decode cc pc = .ok (.iinc i n, 3)) (k : Sim G X cc nL own rt rm em f (pc + 3) L' st h) : Sim G X cc nL own rt rm em f pc L st h := s_iinc q hq hv (Nat.le_of_ble_eq_true hn) hL' hd k
theorem s_km1 (hd : decode cc pc = .ok (.iconst (-1), 1)) (k : Sim G X cc nL own rt rm em f (pc + 1) L (.inl (-1) :: st) h) : Sim G X cc nL own rt rm em f pc L st h := s_iconst (by decide) hd k
theorem s_k0 (hd : decode cc pc = .ok (.iconst 0, 1)) (k : Sim G X cc nL own rt rm em f (pc + 1) L (.inl 0 :: st) h) : Sim G X cc nL own rt rm em f pc L st h := s_iconst (by decide) hd k
theorem s_k1 (hd : decode cc pc = .ok (.iconst 1, 1)) (k : Sim G X cc nL own rt rm em f (pc + 1) L (.inl 1 :: st) h) : Sim G X cc nL own rt rm em f pc L st h := s_iconst (by decide) hd k
theorem s_k2 (hd : decode cc pc = .ok (.iconst 2, 1)) (k : Sim G X cc nL own rt rm em f (pc + 1) L (.inl 2 :: st) h) : Sim G X cc nL own rt rm em f pc L st h := s_iconst (by decide) hd k
theorem s_k3 (hd : decode cc pc = .ok (.iconst 3, 1)) (k : Sim G X cc nL own rt rm em f (pc + 1) L (.inl 3 :: st) h) : Sim G X cc nL own rt rm em f pc L st h := s_iconst (by decide) hd k
theorem s_k4 (hd : decode cc pc = .ok (.iconst 4, 1)) (k : Sim G X cc nL own rt rm em f (pc + 1) L (.inl 4 :: st) h) : Sim G X cc nL own rt rm em f pc L st h := s_iconst (by decide) hd k
theorem s_k5 (hd : decode cc pc = .ok (.iconst 5, 1)) (k : Sim G X cc nL own rt rm em f (pc + 1) L (.inl 5 :: st) h) : Sim G X cc nL own rt rm em f pc L st h := s_iconst (by decide) hd k
theorem s_bip {n : Int} (v : Int32) (hv : (Int8.ofInt n).toInt32 = v) (hd : decode cc pc = .ok (.bipush n, 2)) (k : Sim G X cc nL own rt rm em f (pc + 2) L (.inl v :: st) h) : Sim G X cc nL own rt rm em f pc L st h := s_bipush hv hd k
theorem s_sip {n : Int} (v : Int32) (hv : (Int16.ofInt n).toInt32 = v) (hd : decode cc pc = .ok (.sipush n, 3)) (k : Sim G X cc nL own rt rm em f (pc + 3) L (.inl v :: st) h) : Sim G X cc nL own rt rm em f pc L st h := s_sipush hv hd k
theorem s_lk0 (hd : decode cc pc = .ok (.lconst 0, 1)) (k : Sim G X cc nL own rt rm em f (pc + 1) L (.inr (.inl 0) :: st) h) : Sim G X cc nL own rt rm em f pc L st h := s_lconst (by decide) hd k
theorem s_lk1 (hd : decode cc pc = .ok (.lconst 1, 1)) (k : Sim G X cc nL own rt rm em f (pc + 1) L (.inr (.inl 1) :: st) h) : Sim G X cc nL own rt rm em f pc L st h := s_lconst (by decide) hd k
theorem s_if_eq_P {x : Int32} {off : Int} {tgt : Nat} (q : x = 0) (hd : decode cc pc = .ok (.ifCond .eq off, 3)) (ht : (pc : Int) + off = (tgt : Int)) (k : Sim G X cc nL own rt rm em f tgt L st h) : Sim G X cc nL own rt rm em f pc L (.inl x :: st) h := by
  have z := s_if_eq (ft := f) (ff := none) hd ht (fun _ => k) (fun z => absurd q z) (em := em) (G := G) (X := X) (nL := nL) (own := own) (rt := rt) (rm := rm) (L := L) (st := st) (h := h)
  rw [if_pos q] at z
  exact z
theorem s_if_eq_N {x : Int32} {off : Int} {tgt : Nat} (q : ¬ (x = 0)) (hd : decode cc pc = .ok (.ifCond .eq off, 3)) (ht : (pc : Int) + off = (tgt : Int)) (k : Sim G X cc nL own rt rm em f (pc + 3) L st h) : Sim G X cc nL own rt rm em f pc L (.inl x :: st) h := by
  have z := s_if_eq (ft := none) (ff := f) hd ht (fun z => absurd z q) (fun _ => k) (em := em) (G := G) (X := X) (nL := nL) (own := own) (rt := rt) (rm := rm) (L := L) (st := st) (h := h)
  rw [if_neg q] at z
  exact z
theorem s_if_ne_P {x : Int32} {off : Int} {tgt : Nat} (q : x = 0) (hd : decode cc pc = .ok (.ifCond .ne off, 3)) (ht : (pc : Int) + off = (tgt : Int)) (k : Sim G X cc nL own rt rm em f (pc + 3) L st h) : Sim G X cc nL own rt rm em f pc L (.inl x :: st) h := by
  have z := s_if_ne (ft := none) (ff := f) hd ht (fun z => absurd q z) (fun _ => k) (em := em) (G := G) (X := X) (nL := nL) (own := own) (rt := rt) (rm := rm) (L := L) (st := st) (h := h)
  rw [if_pos q] at z
  exact z
theorem s_if_ne_N {x : Int32} {off : Int} {tgt : Nat} (q : ¬ (x = 0)) (hd : decode cc pc = .ok (.ifCond .ne off, 3)) (ht : (pc : Int) + off = (tgt : Int)) (k : Sim G X cc nL own rt rm em f tgt L st h) : Sim G X cc nL own rt rm em f pc L (.inl x :: st) h := by
  have z := s_if_ne (ft := f) (ff := none) hd ht (fun _ => k) (fun z => absurd z q) (em := em) (G := G) (X := X) (nL := nL) (own := own) (rt := rt) (rm := rm) (L := L) (st := st) (h := h)
  rw [if_neg q] at z
  exact z
theorem s_if_lt_P {x : Int32} {off : Int} {tgt : Nat} (q : x < 0) (hd : decode cc pc = .ok (.ifCond .lt off, 3)) (ht : (pc : Int) + off = (tgt : Int)) (k : Sim G X cc nL own rt rm em f tgt L st h) : Sim G X cc nL own rt rm em f pc L (.inl x :: st) h := by
  have z := s_if_lt (ft := f) (ff := none) hd ht (fun _ => k) (fun z => absurd q z) (em := em) (G := G) (X := X) (nL := nL) (own := own) (rt := rt) (rm := rm) (L := L) (st := st) (h := h)
  rw [if_pos q] at z
  exact z
theorem s_if_lt_N {x : Int32} {off : Int} {tgt : Nat} (q : ¬ (x < 0)) (hd : decode cc pc = .ok (.ifCond .lt off, 3)) (ht : (pc : Int) + off = (tgt : Int)) (k : Sim G X cc nL own rt rm em f (pc + 3) L st h) : Sim G X cc nL own rt rm em f pc L (.inl x :: st) h := by
  have z := s_if_lt (ft := none) (ff := f) hd ht (fun z => absurd z q) (fun _ => k) (em := em) (G := G) (X := X) (nL := nL) (own := own) (rt := rt) (rm := rm) (L := L) (st := st) (h := h)
  rw [if_neg q] at z
  exact z
theorem s_if_ge_P {x : Int32} {off : Int} {tgt : Nat} (q : x < 0) (hd : decode cc pc = .ok (.ifCond .ge off, 3)) (ht : (pc : Int) + off = (tgt : Int)) (k : Sim G X cc nL own rt rm em f (pc + 3) L st h) : Sim G X cc nL own rt rm em f pc L (.inl x :: st) h := by
  have z := s_if_ge (ft := none) (ff := f) hd ht (fun z => absurd q z) (fun _ => k) (em := em) (G := G) (X := X) (nL := nL) (own := own) (rt := rt) (rm := rm) (L := L) (st := st) (h := h)
  rw [if_pos q] at z
  exact z
theorem s_if_ge_N {x : Int32} {off : Int} {tgt : Nat} (q : ¬ (x < 0)) (hd : decode cc pc = .ok (.ifCond .ge off, 3)) (ht : (pc : Int) + off = (tgt : Int)) (k : Sim G X cc nL own rt rm em f tgt L st h) : Sim G X cc nL own rt rm em f pc L (.inl x :: st) h := by
  have z := s_if_ge (ft := f) (ff := none) hd ht (fun _ => k) (fun z => absurd z q) (em := em) (G := G) (X := X) (nL := nL) (own := own) (rt := rt) (rm := rm) (L := L) (st := st) (h := h)
  rw [if_neg q] at z
  exact z
theorem s_if_gt_P {x : Int32} {off : Int} {tgt : Nat} (q : x ≤ 0) (hd : decode cc pc = .ok (.ifCond .gt off, 3)) (ht : (pc : Int) + off = (tgt : Int)) (k : Sim G X cc nL own rt rm em f (pc + 3) L st h) : Sim G X cc nL own rt rm em f pc L (.inl x :: st) h := by
  have z := s_if_gt (ft := none) (ff := f) hd ht (fun z => absurd q z) (fun _ => k) (em := em) (G := G) (X := X) (nL := nL) (own := own) (rt := rt) (rm := rm) (L := L) (st := st) (h := h)
  rw [if_pos q] at z
  exact z
theorem s_if_gt_N {x : Int32} {off : Int} {tgt : Nat} (q : ¬ (x ≤ 0)) (hd : decode cc pc = .ok (.ifCond .gt off, 3)) (ht : (pc : Int) + off = (tgt : Int)) (k : Sim G X cc nL own rt rm em f tgt L st h) : Sim G X cc nL own rt rm em f pc L (.inl x :: st) h := by
  have z := s_if_gt (ft := f) (ff := none) hd ht (fun _ => k) (fun z => absurd z q) (em := em) (G := G) (X := X) (nL := nL) (own := own) (rt := rt) (rm := rm) (L := L) (st := st) (h := h)
  rw [if_neg q] at z
  exact z
theorem s_if_le_P {x : Int32} {off : Int} {tgt : Nat} (q : x ≤ 0) (hd : decode cc pc = .ok (.ifCond .le off, 3)) (ht : (pc : Int) + off = (tgt : Int)) (k : Sim G X cc nL own rt rm em f tgt L st h) : Sim G X cc nL own rt rm em f pc L (.inl x :: st) h := by
  have z := s_if_le (ft := f) (ff := none) hd ht (fun _ => k) (fun z => absurd q z) (em := em) (G := G) (X := X) (nL := nL) (own := own) (rt := rt) (rm := rm) (L := L) (st := st) (h := h)
  rw [if_pos q] at z
  exact z
theorem s_if_le_N {x : Int32} {off : Int} {tgt : Nat} (q : ¬ (x ≤ 0)) (hd : decode cc pc = .ok (.ifCond .le off, 3)) (ht : (pc : Int) + off = (tgt : Int)) (k : Sim G X cc nL own rt rm em f (pc + 3) L st h) : Sim G X cc nL own rt rm em f pc L (.inl x :: st) h := by
  have z := s_if_le (ft := none) (ff := f) hd ht (fun z => absurd z q) (fun _ => k) (em := em) (G := G) (X := X) (nL := nL) (own := own) (rt := rt) (rm := rm) (L := L) (st := st) (h := h)
  rw [if_neg q] at z
  exact z
theorem s_ic_eq_P {x y : Int32} {off : Int} {tgt : Nat} (q : x = y) (hd : decode cc pc = .ok (.if_icmp .eq off, 3)) (ht : (pc : Int) + off = (tgt : Int)) (k : Sim G X cc nL own rt rm em f tgt L st h) : Sim G X cc nL own rt rm em f pc L (.inl y :: .inl x :: st) h := by
  have z := s_ic_eq (ft := f) (ff := none) hd ht (fun _ => k) (fun z => absurd q z) (em := em) (G := G) (X := X) (nL := nL) (own := own) (rt := rt) (rm := rm) (L := L) (st := st) (h := h)
  rw [if_pos q] at z
  exact z
theorem s_ic_eq_N {x y : Int32} {off : Int} {tgt : Nat} (q : ¬ (x = y)) (hd : decode cc pc = .ok (.if_icmp .eq off, 3)) (ht : (pc : Int) + off = (tgt : Int)) (k : Sim G X cc nL own rt rm em f (pc + 3) L st h) : Sim G X cc nL own rt rm em f pc L (.inl y :: .inl x :: st) h := by
  have z := s_ic_eq (ft := none) (ff := f) hd ht (fun z => absurd z q) (fun _ => k) (em := em) (G := G) (X := X) (nL := nL) (own := own) (rt := rt) (rm := rm) (L := L) (st := st) (h := h)
  rw [if_neg q] at z
  exact z
theorem s_ic_ne_P {x y : Int32} {off : Int} {tgt : Nat} (q : x = y) (hd : decode cc pc = .ok (.if_icmp .ne off, 3)) (ht : (pc : Int) + off = (tgt : Int)) (k : Sim G X cc nL own rt rm em f (pc + 3) L st h) : Sim G X cc nL own rt rm em f pc L (.inl y :: .inl x :: st) h := by
  have z := s_ic_ne (ft := none) (ff := f) hd ht (fun z => absurd q z) (fun _ => k) (em := em) (G := G) (X := X) (nL := nL) (own := own) (rt := rt) (rm := rm) (L := L) (st := st) (h := h)
  rw [if_pos q] at z
  exact z
theorem s_ic_ne_N {x y : Int32} {off : Int} {tgt : Nat} (q : ¬ (x = y)) (hd : decode cc pc = .ok (.if_icmp .ne off, 3)) (ht : (pc : Int) + off = (tgt : Int)) (k : Sim G X cc nL own rt rm em f tgt L st h) : Sim G X cc nL own rt rm em f pc L (.inl y :: .inl x :: st) h := by
  have z := s_ic_ne (ft := f) (ff := none) hd ht (fun _ => k) (fun z => absurd z q) (em := em) (G := G) (X := X) (nL := nL) (own := own) (rt := rt) (rm := rm) (L := L) (st := st) (h := h)
  rw [if_neg q] at z
  exact z
theorem s_ic_lt_P {x y : Int32} {off : Int} {tgt : Nat} (q : x < y) (hd : decode cc pc = .ok (.if_icmp .lt off, 3)) (ht : (pc : Int) + off = (tgt : Int)) (k : Sim G X cc nL own rt rm em f tgt L st h) : Sim G X cc nL own rt rm em f pc L (.inl y :: .inl x :: st) h := by
  have z := s_ic_lt (ft := f) (ff := none) hd ht (fun _ => k) (fun z => absurd q z) (em := em) (G := G) (X := X) (nL := nL) (own := own) (rt := rt) (rm := rm) (L := L) (st := st) (h := h)
  rw [if_pos q] at z
  exact z
theorem s_ic_lt_N {x y : Int32} {off : Int} {tgt : Nat} (q : ¬ (x < y)) (hd : decode cc pc = .ok (.if_icmp .lt off, 3)) (ht : (pc : Int) + off = (tgt : Int)) (k : Sim G X cc nL own rt rm em f (pc + 3) L st h) : Sim G X cc nL own rt rm em f pc L (.inl y :: .inl x :: st) h := by
  have z := s_ic_lt (ft := none) (ff := f) hd ht (fun z => absurd z q) (fun _ => k) (em := em) (G := G) (X := X) (nL := nL) (own := own) (rt := rt) (rm := rm) (L := L) (st := st) (h := h)
  rw [if_neg q] at z
  exact z
theorem s_ic_ge_P {x y : Int32} {off : Int} {tgt : Nat} (q : x < y) (hd : decode cc pc = .ok (.if_icmp .ge off, 3)) (ht : (pc : Int) + off = (tgt : Int)) (k : Sim G X cc nL own rt rm em f (pc + 3) L st h) : Sim G X cc nL own rt rm em f pc L (.inl y :: .inl x :: st) h := by
  have z := s_ic_ge (ft := none) (ff := f) hd ht (fun z => absurd q z) (fun _ => k) (em := em) (G := G) (X := X) (nL := nL) (own := own) (rt := rt) (rm := rm) (L := L) (st := st) (h := h)
  rw [if_pos q] at z
  exact z
theorem s_ic_ge_N {x y : Int32} {off : Int} {tgt : Nat} (q : ¬ (x < y)) (hd : decode cc pc = .ok (.if_icmp .ge off, 3)) (ht : (pc : Int) + off = (tgt : Int)) (k : Sim G X cc nL own rt rm em f tgt L st h) : Sim G X cc nL own rt rm em f pc L (.inl y :: .inl x :: st) h := by
  have z := s_ic_ge (ft := f) (ff := none) hd ht (fun _ => k) (fun z => absurd z q) (em := em) (G := G) (X := X) (nL := nL) (own := own) (rt := rt) (rm := rm) (L := L) (st := st) (h := h)
  rw [if_neg q] at z
  exact z
theorem s_ic_gt_P {x y : Int32} {off : Int} {tgt : Nat} (q : x ≤ y) (hd : decode cc pc = .ok (.if_icmp .gt off, 3)) (ht : (pc : Int) + off = (tgt : Int)) (k : Sim G X cc nL own rt rm em f (pc + 3) L st h) : Sim G X cc nL own rt rm em f pc L (.inl y :: .inl x :: st) h := by
  have z := s_ic_gt (ft := none) (ff := f) hd ht (fun z => absurd q z) (fun _ => k) (em := em) (G := G) (X := X) (nL := nL) (own := own) (rt := rt) (rm := rm) (L := L) (st := st) (h := h)
  rw [if_pos q] at z
  exact z
theorem s_ic_gt_N {x y : Int32} {off : Int} {tgt : Nat} (q : ¬ (x ≤ y)) (hd : decode cc pc = .ok (.if_icmp .gt off, 3)) (ht : (pc : Int) + off = (tgt : Int)) (k : Sim G X cc nL own rt rm em f tgt L st h) : Sim G X cc nL own rt rm em f pc L (.inl y :: .inl x :: st) h := by
  have z := s_ic_gt (ft := f) (ff := none) hd ht (fun _ => k) (fun z => absurd z q) (em := em) (G := G) (X := X) (nL := nL) (own := own) (rt := rt) (rm := rm) (L := L) (st := st) (h := h)
  rw [if_neg q] at z
  exact z
theorem s_ic_le_P {x y : Int32} {off : Int} {tgt : Nat} (q : x ≤ y) (hd : decode cc pc = .ok (.if_icmp .le off, 3)) (ht : (pc : Int) + off = (tgt : Int)) (k : Sim G X cc nL own rt rm em f tgt L st h) : Sim G X cc nL own rt rm em f pc L (.inl y :: .inl x :: st) h := by
  have z := s_ic_le (ft := f) (ff := none) hd ht (fun _ => k) (fun z => absurd q z) (em := em) (G := G) (X := X) (nL := nL) (own := own) (rt := rt) (rm := rm) (L := L) (st := st) (h := h)
  rw [if_pos q] at z
  exact z
theorem s_ic_le_N {x y : Int32} {off : Int} {tgt : Nat} (q : ¬ (x ≤ y)) (hd : decode cc pc = .ok (.if_icmp .le off, 3)) (ht : (pc : Int) + off = (tgt : Int)) (k : Sim G X cc nL own rt rm em f (pc + 3) L st h) : Sim G X cc nL own rt rm em f pc L (.inl y :: .inl x :: st) h := by
  have z := s_ic_le (ft := none) (ff := f) hd ht (fun z => absurd z q) (fun _ => k) (em := em) (G := G) (X := X) (nL := nL) (own := own) (rt := rt) (rm := rm) (L := L) (st := st) (h := h)
  rw [if_neg q] at z
  exact z
theorem s_viI {fc : Option (Int32 × mH)} {kf : Int32 × mH → Option α} {y : MethodName} {cy : ByteArray} {ny n idx t i a b0 : Nat} {ry : Option FieldType} (as : List mV) {st0 : List mV}
    (hM : ∀ (l : Launch) (b : Int32 × mH), fc = some b → (∀ v ∈ (.inr (.inr (t, i)) :: as : List mV), mLi v) → mMet G l y cy ny ry (mRoom a b0) (.inr (.inr (t, i)) :: as) h (eI b)) (hme : mMe y cy ny ry n) (hv : mVi own idx y t)
    (hR1 : Nat.ble (a + 1) rm.frames = true) (hR2 : Nat.ble (8 + (ny + 11) + b0) rm.locals = true) (hn : as.length = n) (hst0 : as.reverse ++ .inr (.inr (t, i)) :: st = st0) (hsz : Nat.ble (mSz st) 8 = true) (hd : decode cc pc = .ok (.invokevirtual idx, 3))
    (k : ∀ b : Int32 × mH, Sim G X cc nL own rt rm em (kf b) (pc + 3) L (.inl b.1 :: st) b.2) : Sim G X cc nL own rt rm em (fc.bind kf) pc L st0 h := by
  obtain ⟨c, T, h1, h2, h3, h4, h5, h6⟩ := hv
  exact s_invv (emc := eI) hM hme rfl rfl h1 h2 h3 h4 h5 h6 ⟨Nat.le_of_ble_eq_true hR1, Nat.le_of_ble_eq_true hR2⟩ hn hst0 (Nat.le_of_ble_eq_true hsz) hd (fun b _ => k b)
theorem s_siI {fc : Option (Int32 × mH)} {kf : Int32 × mH → Option α} {y : MethodName} {cy : ByteArray} {ny n idx a b0 : Nat} {ry : Option FieldType} (as : List mV) {st0 : List mV}
    (hM : ∀ (l : Launch) (b : Int32 × mH), fc = some b → (∀ v ∈ as, mLi v) → mMet G l y cy ny ry (mRoom a b0) as h (eI b)) (hme : mMe y cy ny ry n) (hv : mSi own idx y)
    (hR1 : Nat.ble (a + 1) rm.frames = true) (hR2 : Nat.ble (8 + (ny + 11) + b0) rm.locals = true) (hn : as.length = n) (hst0 : as.reverse ++ st = st0) (hsz : Nat.ble (mSz st) 8 = true) (hd : decode cc pc = .ok (.invokestatic idx, 3))
    (k : ∀ b : Int32 × mH, Sim G X cc nL own rt rm em (kf b) (pc + 3) L (.inl b.1 :: st) b.2) : Sim G X cc nL own rt rm em (fc.bind kf) pc L st0 h :=
  s_invs (emc := eI) hM hme rfl rfl hv.1 hv.2 ⟨Nat.le_of_ble_eq_true hR1, Nat.le_of_ble_eq_true hR2⟩ hn hst0 (Nat.le_of_ble_eq_true hsz) hd (fun b _ => k b)
theorem s_viJ {fc : Option (Int64 × mH)} {kf : Int64 × mH → Option α} {y : MethodName} {cy : ByteArray} {ny n idx t i a b0 : Nat} {ry : Option FieldType} (as : List mV) {st0 : List mV}
    (hM : ∀ (l : Launch) (b : Int64 × mH), fc = some b → (∀ v ∈ (.inr (.inr (t, i)) :: as : List mV), mLi v) → mMet G l y cy ny ry (mRoom a b0) (.inr (.inr (t, i)) :: as) h (eJ b)) (hme : mMe y cy ny ry n) (hv : mVi own idx y t)
    (hR1 : Nat.ble (a + 1) rm.frames = true) (hR2 : Nat.ble (8 + (ny + 11) + b0) rm.locals = true) (hn : as.length = n) (hst0 : as.reverse ++ .inr (.inr (t, i)) :: st = st0) (hsz : Nat.ble (mSz st) 8 = true) (hd : decode cc pc = .ok (.invokevirtual idx, 3))
    (k : ∀ b : Int64 × mH, Sim G X cc nL own rt rm em (kf b) (pc + 3) L (.inr (.inl b.1) :: st) b.2) : Sim G X cc nL own rt rm em (fc.bind kf) pc L st0 h := by
  obtain ⟨c, T, h1, h2, h3, h4, h5, h6⟩ := hv
  exact s_invv (emc := eJ) hM hme rfl rfl h1 h2 h3 h4 h5 h6 ⟨Nat.le_of_ble_eq_true hR1, Nat.le_of_ble_eq_true hR2⟩ hn hst0 (Nat.le_of_ble_eq_true hsz) hd (fun b _ => k b)
theorem s_siJ {fc : Option (Int64 × mH)} {kf : Int64 × mH → Option α} {y : MethodName} {cy : ByteArray} {ny n idx a b0 : Nat} {ry : Option FieldType} (as : List mV) {st0 : List mV}
    (hM : ∀ (l : Launch) (b : Int64 × mH), fc = some b → (∀ v ∈ as, mLi v) → mMet G l y cy ny ry (mRoom a b0) as h (eJ b)) (hme : mMe y cy ny ry n) (hv : mSi own idx y)
    (hR1 : Nat.ble (a + 1) rm.frames = true) (hR2 : Nat.ble (8 + (ny + 11) + b0) rm.locals = true) (hn : as.length = n) (hst0 : as.reverse ++ st = st0) (hsz : Nat.ble (mSz st) 8 = true) (hd : decode cc pc = .ok (.invokestatic idx, 3))
    (k : ∀ b : Int64 × mH, Sim G X cc nL own rt rm em (kf b) (pc + 3) L (.inr (.inl b.1) :: st) b.2) : Sim G X cc nL own rt rm em (fc.bind kf) pc L st0 h :=
  s_invs (emc := eJ) hM hme rfl rfl hv.1 hv.2 ⟨Nat.le_of_ble_eq_true hR1, Nat.le_of_ble_eq_true hR2⟩ hn hst0 (Nat.le_of_ble_eq_true hsz) hd (fun b _ => k b)
theorem s_viV {fc : Option (mH)} {kf : mH → Option α} {y : MethodName} {cy : ByteArray} {ny n idx t i a b0 : Nat} {ry : Option FieldType} (as : List mV) {st0 : List mV}
    (hM : ∀ (l : Launch) (b : mH), fc = some b → (∀ v ∈ (.inr (.inr (t, i)) :: as : List mV), mLi v) → mMet G l y cy ny ry (mRoom a b0) (.inr (.inr (t, i)) :: as) h (eV b)) (hme : mMe y cy ny ry n) (hv : mVi own idx y t)
    (hR1 : Nat.ble (a + 1) rm.frames = true) (hR2 : Nat.ble (8 + (ny + 11) + b0) rm.locals = true) (hn : as.length = n) (hst0 : as.reverse ++ .inr (.inr (t, i)) :: st = st0) (hsz : Nat.ble (mSz st) 8 = true) (hd : decode cc pc = .ok (.invokevirtual idx, 3))
    (k : ∀ b : mH, Sim G X cc nL own rt rm em (kf b) (pc + 3) L (st) b) : Sim G X cc nL own rt rm em (fc.bind kf) pc L st0 h := by
  obtain ⟨c, T, h1, h2, h3, h4, h5, h6⟩ := hv
  exact s_invv (emc := eV) hM hme rfl rfl h1 h2 h3 h4 h5 h6 ⟨Nat.le_of_ble_eq_true hR1, Nat.le_of_ble_eq_true hR2⟩ hn hst0 (Nat.le_of_ble_eq_true hsz) hd (fun b _ => k b)
theorem s_siV {fc : Option (mH)} {kf : mH → Option α} {y : MethodName} {cy : ByteArray} {ny n idx a b0 : Nat} {ry : Option FieldType} (as : List mV) {st0 : List mV}
    (hM : ∀ (l : Launch) (b : mH), fc = some b → (∀ v ∈ as, mLi v) → mMet G l y cy ny ry (mRoom a b0) as h (eV b)) (hme : mMe y cy ny ry n) (hv : mSi own idx y)
    (hR1 : Nat.ble (a + 1) rm.frames = true) (hR2 : Nat.ble (8 + (ny + 11) + b0) rm.locals = true) (hn : as.length = n) (hst0 : as.reverse ++ st = st0) (hsz : Nat.ble (mSz st) 8 = true) (hd : decode cc pc = .ok (.invokestatic idx, 3))
    (k : ∀ b : mH, Sim G X cc nL own rt rm em (kf b) (pc + 3) L (st) b) : Sim G X cc nL own rt rm em (fc.bind kf) pc L st0 h :=
  s_invs (emc := eV) hM hme rfl rfl hv.1 hv.2 ⟨Nat.le_of_ble_eq_true hR1, Nat.le_of_ble_eq_true hR2⟩ hn hst0 (Nat.le_of_ble_eq_true hsz) hd (fun b _ => k b)
theorem s_tabP {x : Int32} {dflt lo hi : Int} {offs : Array Int} {len : Nat} (hd : decode cc pc = .ok (.tableswitch dflt lo hi offs, len)) (c : Int32) (q : x = c) (tg : Nat) (ht : (pc : Int) + (if c.toInt < lo ∨ hi < c.toInt then dflt else offs.getD (c.toInt - lo).toNat 0) = (tg : Int)) (hz : (offs.size : Int) = hi - lo + 1) (k : Sim G X cc nL own rt rm em f tg L st h) : Sim G X cc nL own rt rm em f pc L (.inl x :: st) h := by
  subst q
  exact s_table hd tg ht hz k
theorem s_lokP {x : Int32} {dflt : Int} {ps : Array (Int × Int)} {len : Nat} (hd : decode cc pc = .ok (.lookupswitch dflt ps, len)) (c : Int32) (q : x = c) (hp : (ps.toList.zip (ps.toList.drop 1)).all (fun (a, next) => a.1 < next.1) = true) (tg : Nat) (ht : (pc : Int) + Op.lookupswitch.offset ps.toList dflt c.toInt = (tg : Int)) (k : Sim G X cc nL own rt rm em f tg L st h) : Sim G X cc nL own rt rm em f pc L (.inl x :: st) h := by
  subst q
  exact s_lookup hd hp tg ht k
/-- the function splits where the machine doesn't yet -/
theorem s_case {c : Prop} {_hc : Decidable c} {f g : Option α} (kt : c → Sim G X cc nL own rt rm em f pc L st h) (kf : ¬ c → Sim G X cc nL own rt rm em g pc L st h) : Sim G X cc nL own rt rm em (if c then f else g) pc L st h := by
  by_cases q : c
  · rw [if_pos q]; exact kt q
  · rw [if_neg q]; exact kf q
end MS
