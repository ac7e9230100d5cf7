/-! ===== THE WORLD BEHIND THE CONSTRUCTORS: where each cell lies, and what it holds ===== -/
def gIx (t i : Nat) : Nat := match t with
  | 0 => 41 + 7 * i
  | 1 => 1
  | 2 => 93
  | 3 => 46 + 7 * i
  | 4 => 107 + i
  | 5 => 106
  | 6 => 5 + i
  | 7 => 29 + i
  | 8 => (match i with | 0 => 83 | 1 => 110 | j + 2 => 125 + 12 * j)
  | 9 => 123 + 12 * i
  | 10 => 109
  | 11 => 0
  | 12 => 195
  | 20 => 42 + 7 * i
  | 21 => 43 + 7 * i
  | 22 => 44 + 7 * i
  | 23 => 45 + 7 * i
  | 24 => 2
  | 25 => 3
  | 26 => 4
  | 27 => 94
  | 28 => 95 + i
  | 29 => 103
  | 30 => 104
  | 31 => 105
  | 32 => 47 + 7 * i
  | 33 => (match i with | 0 => 84 | 1 => 111 | j + 2 => 126 + 12 * j)
  | 34 => (match i with | 0 => 85 | 1 => 112 | j + 2 => 127 + 12 * j)
  | 35 => (match i with | 0 => 86 | 1 => 113 | j + 2 => 128 + 12 * j)
  | 36 => (match i with | 0 => 87 | 1 => 114 | j + 2 => 129 + 12 * j)
  | 37 => (match i with | 0 => 88 | 1 => 115 | j + 2 => 130 + 12 * j)
  | 38 => (match i with | 0 => 89 | 1 => 116 | j + 2 => 131 + 12 * j)
  | 39 => (match i with | 0 => 90 | 1 => 117 | j + 2 => 132 + 12 * j)
  | 40 => (match i with | 0 => 91 | 1 => 118 | j + 2 => 133 + 12 * j)
  | 41 => (match i with | 0 => 92 | 1 => 119 | j + 2 => 134 + 12 * j)
  | 42 => 124 + 12 * i
  | 43 => 120
  | 44 => 121
  | 45 => 122
  | 46 => 196
  | 47 => 197
  | 48 => 198
  | 49 => 199
  | 50 => 200
  | 51 => 201
  | 52 => 202
  | 53 => 203
  | 54 => 204
  | 55 => 205
  | 56 => 206
  | 57 => 207
  | 58 => 208
  | 59 => 209
  | 60 => 210
  | 61 => 211
  | 62 => 212
  | 63 => 213
  | 64 => 214
  | 65 => 215
  | 66 => 216
  | 67 => 217
  | 68 => 218
  | 69 => 219
  | 70 => 220
  | 71 => 221
  | 72 => 222
  | 73 => 223
  | 74 => 224
  | 75 => 225
  | 76 => 226
  | 77 => 227
  | 78 => 228
  | 79 => 229
  | 80 => 230
  | 81 => 231
  | 82 => 232
  | 83 => 233
  | 84 => 234
  | 85 => 235
  | 86 => 236
  | 87 => 237
  | 88 => 238
  | 89 => 239
  | 90 => 240
  | 91 => 241
  | 92 => 242
  | 93 => 243
  | 94 => 244
  | 95 => 245
  | 96 => 246
  | 98 => 247
  | _ => 0
def gOr : List mR := [(11, 0), (1, 0), (24, 0), (25, 0), (26, 0), (6, 0), (6, 1), (6, 2), (6, 3), (6, 4), (6, 5), (6, 6), (6, 7), (6, 8), (6, 9), (6, 10), (6, 11), (6, 12), (6, 13), (6, 14), (6, 15), (6, 16), (6, 17), (6, 18), (6, 19), (6, 20), (6, 21), (6, 22), (6, 23), (7, 0), (7, 1), (7, 2), (7, 3), (7, 4), (7, 5), (7, 6), (7, 7), (7, 8), (7, 9), (7, 10), (7, 11), (0, 0), (20, 0), (21, 0), (22, 0), (23, 0), (3, 0), (32, 0), (0, 1), (20, 1), (21, 1), (22, 1), (23, 1), (3, 1), (32, 1), (0, 2), (20, 2), (21, 2), (22, 2), (23, 2), (3, 2), (32, 2), (0, 3), (20, 3), (21, 3), (22, 3), (23, 3), (3, 3), (32, 3), (0, 4), (20, 4), (21, 4), (22, 4), (23, 4), (3, 4), (32, 4), (0, 5), (20, 5), (21, 5), (22, 5), (23, 5), (3, 5), (32, 5), (8, 0), (33, 0), (34, 0), (35, 0), (36, 0), (37, 0), (38, 0), (39, 0), (40, 0), (41, 0), (2, 0), (27, 0), (28, 0), (28, 1), (28, 2), (28, 3), (28, 4), (28, 5), (28, 6), (28, 7), (29, 0), (30, 0), (31, 0), (5, 0), (4, 0), (4, 1), (10, 0), (8, 1), (33, 1), (34, 1), (35, 1), (36, 1), (37, 1), (38, 1), (39, 1), (40, 1), (41, 1), (43, 0), (44, 0), (45, 0), (9, 0), (42, 0), (8, 2), (33, 2), (34, 2), (35, 2), (36, 2), (37, 2), (38, 2), (39, 2), (40, 2), (41, 2), (9, 1), (42, 1), (8, 3), (33, 3), (34, 3), (35, 3), (36, 3), (37, 3), (38, 3), (39, 3), (40, 3), (41, 3), (9, 2), (42, 2), (8, 4), (33, 4), (34, 4), (35, 4), (36, 4), (37, 4), (38, 4), (39, 4), (40, 4), (41, 4), (9, 3), (42, 3), (8, 5), (33, 5), (34, 5), (35, 5), (36, 5), (37, 5), (38, 5), (39, 5), (40, 5), (41, 5), (9, 4), (42, 4), (8, 6), (33, 6), (34, 6), (35, 6), (36, 6), (37, 6), (38, 6), (39, 6), (40, 6), (41, 6), (9, 5), (42, 5), (8, 7), (33, 7), (34, 7), (35, 7), (36, 7), (37, 7), (38, 7), (39, 7), (40, 7), (41, 7), (12, 0), (46, 0), (47, 0), (48, 0), (49, 0), (50, 0), (51, 0), (52, 0), (53, 0), (54, 0), (55, 0), (56, 0), (57, 0), (58, 0), (59, 0), (60, 0), (61, 0), (62, 0), (63, 0), (64, 0), (65, 0), (66, 0), (67, 0), (68, 0), (69, 0), (70, 0), (71, 0), (72, 0), (73, 0), (74, 0), (75, 0), (76, 0), (77, 0), (78, 0), (79, 0), (80, 0), (81, 0), (82, 0), (83, 0), (84, 0), (85, 0), (86, 0), (87, 0), (88, 0), (89, 0), (90, 0), (91, 0), (92, 0), (93, 0), (94, 0), (95, 0), (96, 0), (98, 0)]
theorem gOr_ix : ∀ r ∈ mKeys, gOr[gIx r.1 r.2]? = some r := by decide +kernel
def h0 : mH := (fun t _ k => match t with | 1 => (match k with | 3 => 4 | 7 => 1 | _ => 0) | 8 => (match k with | 14 => (-1) | _ => 0) | 10 => (match k with | 7 => (-2) | _ => 0) | 12 => (match k with | 1 => 4 | 22 => 1 | 57 => (-1) | 58 => (-1) | _ => 0) | _ => 0, fun t _ k => match t with | 8 => (match k with | 15 => (-1) | _ => 0) | 37 => (-1) | _ => 0)
def gAd (z b t i : Nat) : Nat := if t = 99 then b else z + gIx t i
def gG (D : va_G) (aT : FieldType → ClassId) (z b : Nat) : mG := (D, aT, gAd z b, z)
def gC (G : mG) (z : Nat) (cs : List va_E) (H : Heap) : Prop := ∀ (j : Nat) (x : va_E), cs[j]? = some x → va_at G.1 mCl (z + j, x) H
theorem gC.app {G : mG} {z n : Nat} {A B : List va_E} {H : Heap} (hn : A.length = n) (h : gC G z (A ++ B) H) : gC G z A H ∧ gC G (z + n) B H := by
  subst hn
  refine ⟨fun j x hj => h j x ?_, fun j x hj => ?_⟩
  · rw [List.getElem?_append_left (List.getElem?_eq_some_iff.mp hj).1]
    exact hj
  · have q := h (A.length + j) x (by rw [List.getElem?_append_right (by omega), Nat.add_sub_cancel_left]; exact hj)
    rw [← Nat.add_assoc] at q
    exact q
theorem gC.cons {G : mG} {z : Nat} {x : va_E} {B : List va_E} {H : Heap} (h : gC G z (x :: B) H) : va_at G.1 mCl (z, x) H ∧ gC G (z + 1) B H := by
  refine ⟨h 0 x rfl, fun j y hj => ?_⟩
  have q := h (j + 1) y (by rw [List.getElem?_cons_succ]; exact hj)
  rw [show z + 1 + j = z + (j + 1) by omega]
  exact q
theorem gC.fl {G : mG} {z0 z n0 w N : Nat} {E1 : Nat → va_E} {DS : Nat → List va_E} {H : Heap} (hw : ∀ q, (DS q).length + 1 = w) (h : gC G z0 (gFl E1 DS z n0 w N) H) : ∀ k, k < N → va_at G.1 mCl (z0 + w * k, E1 (z + (n0 + w * k) + 1)) H ∧ gC G (z0 + w * k + 1) (DS (z + (n0 + w * k) + 1)) H := by
  induction N with
  | zero => intro k hk; exact absurd hk (Nat.not_lt_zero k)
  | succ N ih =>
    rw [gFl_succ] at h
    obtain ⟨h1, h2⟩ := gC.app (gFl_len hw) h
    intro k hk
    by_cases e : k < N
    · exact ih h1 k e
    · have ek : k = N := by omega
      subst ek
      exact gC.cons h2
theorem gC.mk {G : mG} {z : Nat} {x : va_E} {B : List va_E} {H : Heap} (h1 : va_at G.1 mCl (z, x) H) (h2 : gC G (z + 1) B H) : gC G z (x :: B) H := by
  intro j y hj
  cases j with
  | zero =>
    cases hj
    exact h1
  | succ j =>
    rw [List.getElem?_cons_succ] at hj
    have q := h2 j y hj
    rw [show z + 1 + j = z + (j + 1) by omega] at q
    exact q
theorem gC.nil {G : mG} {z : Nat} {H : Heap} : gC G z [] H := fun j y hj => by cases hj
/-- an array of references, by its places -/
theorem va_q {D : va_G} {a : Nat} {c : ClassId} {n : Nat} {f g : Nat → Option Nat} {H : Heap} (h : va_at D mCl (a, .inl (c, n, .inr (.inr (.inr (.inr f))))) H) (e : ∀ k, k < n → f k = g k) : va_at D mCl (a, .inl (c, n, .inr (.inr (.inr (.inr g))))) H := by
  have z : H[a]? = some (vp_cell _ _) := h
  show H[a]? = some (vp_cell _ _)
  rw [z, vp_cell_q, vp_cell_q]
  exact congrArg some (arrV_cong fun k hk => by rw [e k hk])
theorem set_last {α : Type} {A : List α} {x y : α} {n : Nat} (hn : A.length = n) : (A ++ [x]).set n y = A ++ [y] := by
  subst hn
  rw [List.set_append_right _ _ (Nat.le_refl _), Nat.sub_self]
  rfl
theorem x8 {G : mG} {z : Nat} {H : Heap} (h : gC G z (ic_8 G z) H) : va_at G.1 mCl (z + 0, .inl (G.2.1 .int, 24, .inl fun _ => 0)) H ∧ va_at G.1 mCl (z + 1, .inl (G.2.1 .int, 24, .inl fun _ => 0)) H ∧ va_at G.1 mCl (z + 2, .inl (G.2.1 .int, 24, .inl fun _ => 0)) H ∧ va_at G.1 mCl (z + 3, .inl (G.2.1 .int, 24, .inl fun _ => 0)) H ∧ va_at G.1 mCl (z + 4, .inl (G.2.1 .long, 24, .inr (.inl fun _ => (-1)))) H ∧ va_at G.1 mCl (z + 5, .inl (G.2.1 .int, 8, .inl fun _ => 0)) H ∧ va_at G.1 mCl (z + 6, .inl (G.2.1 .int, 16, .inl fun _ => 0)) H ∧ va_at G.1 mCl (z + 7, .inl (G.2.1 .int, 16, .inl fun _ => 0)) H ∧ va_at G.1 mCl (z + 8, .inl (G.2.1 .long, 16, .inr (.inl fun _ => 0))) H := ⟨h 0 _ rfl, h 1 _ rfl, h 2 _ rfl, h 3 _ rfl, h 4 _ rfl, h 5 _ rfl, h 6 _ rfl, h 7 _ rfl, h 8 _ rfl⟩
theorem x9 {G : mG} {z : Nat} {H : Heap} (h : gC G z (ic_9 G z) H) : va_at G.1 mCl (z + 0, .inl (G.2.1 .long, 64, .inr (.inl fun _ => 0))) H ∧ va_at G.1 mCl (z + 1, ie_8 (z + 2)) H ∧ gC G (z + 2) (ic_8 G (z + 2)) H := by
  unfold ic_9 at h
  obtain ⟨h1, h2⟩ := gC.app (n := 1) rfl h
  obtain ⟨h3, h4⟩ := gC.cons h2
  exact ⟨h1 0 _ rfl, h3, h4⟩
set_option maxRecDepth 20000 in
theorem ic12_eq (G : mG) (z : Nat) : ic_12 G z = [.inl (G.2.1 .int, 24, .inl fun _ => 0), .inl (G.2.1 .int, 24, .inl fun _ => 0), .inl (G.2.1 .int, 24, .inl fun _ => 0), .inl (G.2.1 .int, 24, .inl fun _ => 0), .inl (G.2.1 .int, 24, .inl fun _ => 0), .inl (G.2.1 .int, 24, .inl fun _ => 0), .inl (G.2.1 .int, 24, .inl fun _ => 0), .inl (G.2.1 .int, 24, .inl fun _ => 0), .inl (G.2.1 .int, 12, .inl fun _ => 0), .inl (G.2.1 .int, 12, .inl fun _ => 0), .inl (G.2.1 .int, 12, .inl fun _ => 0), .inl (G.2.1 .int, 12, .inl fun _ => 0), .inl (G.2.1 .int, 6, .inl fun _ => 0), .inl (G.2.1 .int, 72, .inl fun _ => 0), .inl (G.2.1 .int, 72, .inl fun _ => 0), .inl (G.2.1 .int, 72, .inl fun _ => 0), .inl (G.2.1 .int, 72, .inl fun _ => 0), .inl (G.2.1 .int, 24, .inl fun _ => 0), .inl (G.2.1 .int, 24, .inl fun _ => 0), .inl (G.2.1 .int, 24, .inl fun _ => 0), .inl (G.2.1 .int, 24, .inl fun _ => 0), .inl (G.2.1 .int, 24, .inl fun _ => 0), .inl (G.2.1 .int, 8, .inl fun _ => 0), .inl (G.2.1 .int, 17, .inl fun _ => 0), .inl (G.2.1 .int, 17, .inl fun _ => 0), .inl (G.2.1 .int, 17, .inl fun _ => 0), .inl (G.2.1 .int, 8, .inl fun _ => 0), .inl (G.2.1 .int, 192, .inl fun _ => 0), .inl (G.2.1 .int, 192, .inl fun _ => 0), .inl (G.2.1 .int, 192, .inl fun _ => 0), .inl (G.2.1 .int, 192, .inl fun _ => 0), .inl (G.2.1 .int, 192, .inl fun _ => 0), .inl (G.2.1 .int, 64, .inl fun _ => 0), .inl (G.2.1 .int, 8, .inl fun _ => 0), .inl (G.2.1 .int, 136, .inl fun _ => 0), .inl (G.2.1 .int, 136, .inl fun _ => 0), .inl (G.2.1 .int, 136, .inl fun _ => 0), .inl (G.2.1 .int, 8, .inl fun _ => 0), .inl (G.2.1 .int, 8, .inl fun _ => 0), .inl (G.2.1 .int, 8, .inl fun _ => 0), .inl (G.2.1 .int, 8, .inl fun _ => 0), .inl (G.2.1 .int, 8, .inl fun _ => 0), .inl (G.2.1 .int, 8, .inl fun _ => 0), .inl (G.2.1 .int, 6, .inl fun _ => 0), .inl (G.2.1 .int, 6, .inl fun _ => 0), .inl (G.2.1 .long, 384, .inr (.inl fun _ => 0)), .inl (G.2.1 .boolean, 24, .inl fun _ => 0), .inl (G.2.1 .int, 2, .inl fun _ => 0), .inl (G.2.1 .int, 600, .inl fun _ => 0), .inl (G.2.1 .int, 2, .inl fun _ => 0), .inl (G.2.1 .long, 64, .inr (.inl fun _ => 0))] := by
  unfold ic_12
  simp only [List.nil_append, List.append_assoc, List.cons_append]
theorem g_q24 {D : va_G} {aT : FieldType → ClassId} {z b k : Nat} (hk : k < 24) : gAr (z + 1 + 1) 3 1 24 k = (mRf 24 0 k).map (mAd (gG D aT z b)) := by
  show (if k < 24 then some (z + 1 + 1 + (3 + 1 * k)) else none) = some (gAd z b 6 k)
  rw [if_pos hk]
  refine congrArg some ?_
  show _ = (if 6 = 99 then b else z + gIx 6 k)
  rw [if_neg (by decide)]
  show _ = z + (5 + k)
  omega
theorem g_q25 {D : va_G} {aT : FieldType → ClassId} {z b k : Nat} (hk : k < 12) : gAr (z + 1 + 1) 27 1 12 k = (mRf 25 0 k).map (mAd (gG D aT z b)) := by
  show (if k < 12 then some (z + 1 + 1 + (27 + 1 * k)) else none) = some (gAd z b 7 k)
  rw [if_pos hk]
  refine congrArg some ?_
  show _ = (if 7 = 99 then b else z + gIx 7 k)
  rw [if_neg (by decide)]
  show _ = z + (29 + k)
  omega
theorem g_q26 {D : va_G} {aT : FieldType → ClassId} {z b k : Nat} (hk : k < 6) : gAr (z + 1 + 1) 39 7 6 k = (mRf 26 0 k).map (mAd (gG D aT z b)) := by
  show (if k < 6 then some (z + 1 + 1 + (39 + 7 * k)) else none) = some (gAd z b 0 k)
  rw [if_pos hk]
  refine congrArg some ?_
  show _ = (if 0 = 99 then b else z + gIx 0 k)
  rw [if_neg (by decide)]
  show _ = z + (41 + 7 * k)
  omega
theorem g_q45 {D : va_G} {aT : FieldType → ClassId} {z b k : Nat} (hk : k < 6) : gAr (z + 1) 122 12 6 k = (mRf 45 0 k).map (mAd (gG D aT z b)) := by
  show (if k < 6 then some (z + 1 + (122 + 12 * k)) else none) = some (gAd z b 9 k)
  rw [if_pos hk]
  refine congrArg some ?_
  show _ = (if 9 = 99 then b else z + gIx 9 k)
  rw [if_neg (by decide)]
  show _ = z + (123 + 12 * k)
  omega
theorem g_q27 {D : va_G} {aT : FieldType → ClassId} {z b k : Nat} (_ : k < 8) : some (z + 1 + 93 + 0 + 1 + k - 0) = (mRf 27 0 k).map (mAd (gG D aT z b)) := by
  show _ = some (gAd z b 28 k)
  refine congrArg some ?_
  show _ = (if 28 = 99 then b else z + gIx 28 k)
  rw [if_neg (by decide)]
  show _ = z + (95 + k)
  omega
