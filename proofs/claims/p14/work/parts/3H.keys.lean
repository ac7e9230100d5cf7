set_option maxHeartbeats 4000000 in
set_option maxRecDepth 100000 in
theorem g_keys {D : va_G} {aT : FieldType → ClassId} {z b : Nat} {H : Heap} (h : gC (gG D aT z b) z (((([] : List va_E) ++ (ie_11 (z + 1) :: ic_11 (gG D aT z b) (z + 1))) ++ (ie_12 (z + 196) :: ic_12 (gG D aT z b) (z + 196))) ++ [(.inl ((gG D aT z b).2.1 .long, 1, .inr (.inl fun _ => 0)) : va_E)]) H) : gC (gG D aT z b) z (gOr.map fun r => mE (gG D aT z b) h0 r.1 r.2) H := by
  generalize hG : gG D aT z b = G at h ⊢
  obtain ⟨h, k247⟩ := gC.app (n := 247) (by simp [il_11, il_12]) h
  obtain ⟨h, hm⟩ := gC.app (n := 195) (by simp [il_11]) h
  obtain ⟨k0, h11⟩ := gC.cons h
  obtain ⟨k195, h12⟩ := gC.cons hm
  replace k247 := (gC.cons k247).1
  unfold ic_11 at h11
  rw [set_last (n := 121) (by simp [il_1, il_8, il_2, il_5, il_10])] at h11
  obtain ⟨h11, htp⟩ := gC.app (n := 122) (by simp [il_1, il_8, il_2, il_5, il_10]) h11
  obtain ⟨h11, k122⟩ := gC.app (n := 121) (by simp [il_1, il_8, il_2, il_5, il_10]) h11
  replace k122 := (gC.cons k122).1
  obtain ⟨h11, hwk⟩ := gC.app (n := 108) (by simp [il_1, il_8, il_2, il_5]) h11
  obtain ⟨k109, hwk⟩ := gC.cons hwk
  obtain ⟨h11, hdr⟩ := gC.app (n := 105) (by simp [il_1, il_8, il_2]) h11
  obtain ⟨k106, hdr⟩ := gC.cons hdr
  obtain ⟨h11, hch⟩ := gC.app (n := 92) (by simp [il_1, il_8]) h11
  obtain ⟨k93, hch⟩ := gC.cons hch
  obtain ⟨h11, hs0⟩ := gC.app (n := 82) (by simp [il_1]) h11
  obtain ⟨k83, hs0⟩ := gC.cons hs0
  obtain ⟨k1, hbk⟩ := gC.cons h11
  unfold ic_10 at hwk
  obtain ⟨hwk, k121⟩ := gC.app (n := 11) (by simp [il_8]) hwk
  replace k121 := (gC.cons k121).1
  obtain ⟨hwk, k120⟩ := gC.app (n := 10) (by simp [il_8]) hwk
  replace k120 := (gC.cons k120).1
  obtain ⟨k110, hs1⟩ := gC.cons hwk
  have hbk1 : gC G (z + 1 + 1) (((([(.inl (G.2.1 (.object "DriverBook$Field"), 24, .inr (.inr (.inr (.inr (gAr (z + 1 + 1) 3 1 24))))) : va_E), .inl (G.2.1 (.object "DriverBook$Law"), 12, .inr (.inr (.inr (.inr (gAr (z + 1 + 1) 27 1 12))))), .inl (G.2.1 (.object "DriverBook$Act"), 6, .inr (.inr (.inr (.inr (gAr (z + 1 + 1) 39 7 6)))))] ++ gFl (fun q => ie_6 q) (fun q => []) (z + 1 + 1) 3 1 24)) ++ gFl (fun q => ie_7 q) (fun q => []) (z + 1 + 1) 27 1 12) ++ gFl (fun q => ie_0 q) (fun q => ic_0 G q) (z + 1 + 1) 39 7 6) H := hbk
  obtain ⟨hbk2, hact⟩ := gC.app (n := 39) (by rw [List.length_append, List.length_append, gFl_len (w := 1) (fun q => rfl), gFl_len (w := 1) (fun q => rfl)]; rfl) hbk1
  obtain ⟨hbk3, hlaw⟩ := gC.app (n := 27) (by rw [List.length_append, gFl_len (w := 1) (fun q => rfl)]; rfl) hbk2
  obtain ⟨hbk4, hfld⟩ := gC.app (n := 3) rfl hbk3
  have hact := gC.fl (w := 7) (fun q => by rw [il_0]) hact
  have hlaw := gC.fl (w := 1) (fun q => rfl) hlaw
  have hfld := gC.fl (w := 1) (fun q => rfl) hfld
  have htp := gC.fl (w := 12) (fun q => by rw [il_9]) htp
  rw [ic12_eq] at h12
  subst hG
  have e0 : va_at D mCl (z + 0, mE (gG D aT z b) h0 11 0) H := by rw [mE_obj (c := 11) rfl]; exact k0
  have e1 : va_at D mCl (z + 1, mE (gG D aT z b) h0 1 0) H := by rw [mE_obj (c := 1) rfl]; exact k1
  have e2 : va_at D mCl (z + 2, mE (gG D aT z b) h0 24 0) H := by rw [mE_arr (ty := (.object "DriverBook$Field")) (n := 24) rfl, mAr_ref rfl]; exact va_q (hbk4 0 _ rfl) (fun k hk => g_q24 hk)
  have e3 : va_at D mCl (z + 3, mE (gG D aT z b) h0 25 0) H := by rw [mE_arr (ty := (.object "DriverBook$Law")) (n := 12) rfl, mAr_ref rfl]; exact va_q (hbk4 1 _ rfl) (fun k hk => g_q25 hk)
  have e4 : va_at D mCl (z + 4, mE (gG D aT z b) h0 26 0) H := by rw [mE_arr (ty := (.object "DriverBook$Act")) (n := 6) rfl, mAr_ref rfl]; exact va_q (hbk4 2 _ rfl) (fun k hk => g_q26 hk)
  have e5 : va_at D mCl (z + 5, mE (gG D aT z b) h0 6 0) H := by rw [mE_obj (c := 6) rfl]; exact (hfld 0 (by decide)).1
  have e6 : va_at D mCl (z + 6, mE (gG D aT z b) h0 6 1) H := by rw [mE_obj (c := 6) rfl]; exact (hfld 1 (by decide)).1
  have e7 : va_at D mCl (z + 7, mE (gG D aT z b) h0 6 2) H := by rw [mE_obj (c := 6) rfl]; exact (hfld 2 (by decide)).1
  have e8 : va_at D mCl (z + 8, mE (gG D aT z b) h0 6 3) H := by rw [mE_obj (c := 6) rfl]; exact (hfld 3 (by decide)).1
  have e9 : va_at D mCl (z + 9, mE (gG D aT z b) h0 6 4) H := by rw [mE_obj (c := 6) rfl]; exact (hfld 4 (by decide)).1
  have e10 : va_at D mCl (z + 10, mE (gG D aT z b) h0 6 5) H := by rw [mE_obj (c := 6) rfl]; exact (hfld 5 (by decide)).1
  have e11 : va_at D mCl (z + 11, mE (gG D aT z b) h0 6 6) H := by rw [mE_obj (c := 6) rfl]; exact (hfld 6 (by decide)).1
  have e12 : va_at D mCl (z + 12, mE (gG D aT z b) h0 6 7) H := by rw [mE_obj (c := 6) rfl]; exact (hfld 7 (by decide)).1
  have e13 : va_at D mCl (z + 13, mE (gG D aT z b) h0 6 8) H := by rw [mE_obj (c := 6) rfl]; exact (hfld 8 (by decide)).1
  have e14 : va_at D mCl (z + 14, mE (gG D aT z b) h0 6 9) H := by rw [mE_obj (c := 6) rfl]; exact (hfld 9 (by decide)).1
  have e15 : va_at D mCl (z + 15, mE (gG D aT z b) h0 6 10) H := by rw [mE_obj (c := 6) rfl]; exact (hfld 10 (by decide)).1
  have e16 : va_at D mCl (z + 16, mE (gG D aT z b) h0 6 11) H := by rw [mE_obj (c := 6) rfl]; exact (hfld 11 (by decide)).1
  have e17 : va_at D mCl (z + 17, mE (gG D aT z b) h0 6 12) H := by rw [mE_obj (c := 6) rfl]; exact (hfld 12 (by decide)).1
  have e18 : va_at D mCl (z + 18, mE (gG D aT z b) h0 6 13) H := by rw [mE_obj (c := 6) rfl]; exact (hfld 13 (by decide)).1
  have e19 : va_at D mCl (z + 19, mE (gG D aT z b) h0 6 14) H := by rw [mE_obj (c := 6) rfl]; exact (hfld 14 (by decide)).1
  have e20 : va_at D mCl (z + 20, mE (gG D aT z b) h0 6 15) H := by rw [mE_obj (c := 6) rfl]; exact (hfld 15 (by decide)).1
  have e21 : va_at D mCl (z + 21, mE (gG D aT z b) h0 6 16) H := by rw [mE_obj (c := 6) rfl]; exact (hfld 16 (by decide)).1
  have e22 : va_at D mCl (z + 22, mE (gG D aT z b) h0 6 17) H := by rw [mE_obj (c := 6) rfl]; exact (hfld 17 (by decide)).1
  have e23 : va_at D mCl (z + 23, mE (gG D aT z b) h0 6 18) H := by rw [mE_obj (c := 6) rfl]; exact (hfld 18 (by decide)).1
  have e24 : va_at D mCl (z + 24, mE (gG D aT z b) h0 6 19) H := by rw [mE_obj (c := 6) rfl]; exact (hfld 19 (by decide)).1
  have e25 : va_at D mCl (z + 25, mE (gG D aT z b) h0 6 20) H := by rw [mE_obj (c := 6) rfl]; exact (hfld 20 (by decide)).1
  have e26 : va_at D mCl (z + 26, mE (gG D aT z b) h0 6 21) H := by rw [mE_obj (c := 6) rfl]; exact (hfld 21 (by decide)).1
  have e27 : va_at D mCl (z + 27, mE (gG D aT z b) h0 6 22) H := by rw [mE_obj (c := 6) rfl]; exact (hfld 22 (by decide)).1
  have e28 : va_at D mCl (z + 28, mE (gG D aT z b) h0 6 23) H := by rw [mE_obj (c := 6) rfl]; exact (hfld 23 (by decide)).1
  have e29 : va_at D mCl (z + 29, mE (gG D aT z b) h0 7 0) H := by rw [mE_obj (c := 7) rfl]; exact (hlaw 0 (by decide)).1
  have e30 : va_at D mCl (z + 30, mE (gG D aT z b) h0 7 1) H := by rw [mE_obj (c := 7) rfl]; exact (hlaw 1 (by decide)).1
  have e31 : va_at D mCl (z + 31, mE (gG D aT z b) h0 7 2) H := by rw [mE_obj (c := 7) rfl]; exact (hlaw 2 (by decide)).1
  have e32 : va_at D mCl (z + 32, mE (gG D aT z b) h0 7 3) H := by rw [mE_obj (c := 7) rfl]; exact (hlaw 3 (by decide)).1
  have e33 : va_at D mCl (z + 33, mE (gG D aT z b) h0 7 4) H := by rw [mE_obj (c := 7) rfl]; exact (hlaw 4 (by decide)).1
  have e34 : va_at D mCl (z + 34, mE (gG D aT z b) h0 7 5) H := by rw [mE_obj (c := 7) rfl]; exact (hlaw 5 (by decide)).1
  have e35 : va_at D mCl (z + 35, mE (gG D aT z b) h0 7 6) H := by rw [mE_obj (c := 7) rfl]; exact (hlaw 6 (by decide)).1
  have e36 : va_at D mCl (z + 36, mE (gG D aT z b) h0 7 7) H := by rw [mE_obj (c := 7) rfl]; exact (hlaw 7 (by decide)).1
  have e37 : va_at D mCl (z + 37, mE (gG D aT z b) h0 7 8) H := by rw [mE_obj (c := 7) rfl]; exact (hlaw 8 (by decide)).1
  have e38 : va_at D mCl (z + 38, mE (gG D aT z b) h0 7 9) H := by rw [mE_obj (c := 7) rfl]; exact (hlaw 9 (by decide)).1
  have e39 : va_at D mCl (z + 39, mE (gG D aT z b) h0 7 10) H := by rw [mE_obj (c := 7) rfl]; exact (hlaw 10 (by decide)).1
  have e40 : va_at D mCl (z + 40, mE (gG D aT z b) h0 7 11) H := by rw [mE_obj (c := 7) rfl]; exact (hlaw 11 (by decide)).1
  have e41 : va_at D mCl (z + 41, mE (gG D aT z b) h0 0 0) H := by rw [mE_obj (c := 0) rfl]; exact (hact 0 (by decide)).1
  have e42 : va_at D mCl (z + 42, mE (gG D aT z b) h0 20 0) H := by rw [mE_arr (ty := .int) (n := 12) rfl, mAr_int]; exact ((hact 0 (by decide)).2 0 _ rfl)
  have e43 : va_at D mCl (z + 43, mE (gG D aT z b) h0 21 0) H := by rw [mE_arr (ty := .int) (n := 12) rfl, mAr_int]; exact ((hact 0 (by decide)).2 1 _ rfl)
  have e44 : va_at D mCl (z + 44, mE (gG D aT z b) h0 22 0) H := by rw [mE_arr (ty := .int) (n := 12) rfl, mAr_int]; exact ((hact 0 (by decide)).2 2 _ rfl)
  have e45 : va_at D mCl (z + 45, mE (gG D aT z b) h0 23 0) H := by rw [mE_arr (ty := .int) (n := 12) rfl, mAr_int]; exact ((hact 0 (by decide)).2 3 _ rfl)
  have e46 : va_at D mCl (z + 46, mE (gG D aT z b) h0 3 0) H := by rw [mE_obj (c := 3) rfl]; exact ((hact 0 (by decide)).2 4 _ rfl)
  have e47 : va_at D mCl (z + 47, mE (gG D aT z b) h0 32 0) H := by rw [mE_arr (ty := .int) (n := 288) rfl, mAr_int]; exact ((hact 0 (by decide)).2 5 _ rfl)
  have e48 : va_at D mCl (z + 48, mE (gG D aT z b) h0 0 1) H := by rw [mE_obj (c := 0) rfl]; exact (hact 1 (by decide)).1
  have e49 : va_at D mCl (z + 49, mE (gG D aT z b) h0 20 1) H := by rw [mE_arr (ty := .int) (n := 12) rfl, mAr_int]; exact ((hact 1 (by decide)).2 0 _ rfl)
  have e50 : va_at D mCl (z + 50, mE (gG D aT z b) h0 21 1) H := by rw [mE_arr (ty := .int) (n := 12) rfl, mAr_int]; exact ((hact 1 (by decide)).2 1 _ rfl)
  have e51 : va_at D mCl (z + 51, mE (gG D aT z b) h0 22 1) H := by rw [mE_arr (ty := .int) (n := 12) rfl, mAr_int]; exact ((hact 1 (by decide)).2 2 _ rfl)
  have e52 : va_at D mCl (z + 52, mE (gG D aT z b) h0 23 1) H := by rw [mE_arr (ty := .int) (n := 12) rfl, mAr_int]; exact ((hact 1 (by decide)).2 3 _ rfl)
  have e53 : va_at D mCl (z + 53, mE (gG D aT z b) h0 3 1) H := by rw [mE_obj (c := 3) rfl]; exact ((hact 1 (by decide)).2 4 _ rfl)
  have e54 : va_at D mCl (z + 54, mE (gG D aT z b) h0 32 1) H := by rw [mE_arr (ty := .int) (n := 288) rfl, mAr_int]; exact ((hact 1 (by decide)).2 5 _ rfl)
  have e55 : va_at D mCl (z + 55, mE (gG D aT z b) h0 0 2) H := by rw [mE_obj (c := 0) rfl]; exact (hact 2 (by decide)).1
  have e56 : va_at D mCl (z + 56, mE (gG D aT z b) h0 20 2) H := by rw [mE_arr (ty := .int) (n := 12) rfl, mAr_int]; exact ((hact 2 (by decide)).2 0 _ rfl)
  have e57 : va_at D mCl (z + 57, mE (gG D aT z b) h0 21 2) H := by rw [mE_arr (ty := .int) (n := 12) rfl, mAr_int]; exact ((hact 2 (by decide)).2 1 _ rfl)
  have e58 : va_at D mCl (z + 58, mE (gG D aT z b) h0 22 2) H := by rw [mE_arr (ty := .int) (n := 12) rfl, mAr_int]; exact ((hact 2 (by decide)).2 2 _ rfl)
  have e59 : va_at D mCl (z + 59, mE (gG D aT z b) h0 23 2) H := by rw [mE_arr (ty := .int) (n := 12) rfl, mAr_int]; exact ((hact 2 (by decide)).2 3 _ rfl)
  have e60 : va_at D mCl (z + 60, mE (gG D aT z b) h0 3 2) H := by rw [mE_obj (c := 3) rfl]; exact ((hact 2 (by decide)).2 4 _ rfl)
  have e61 : va_at D mCl (z + 61, mE (gG D aT z b) h0 32 2) H := by rw [mE_arr (ty := .int) (n := 288) rfl, mAr_int]; exact ((hact 2 (by decide)).2 5 _ rfl)
  have e62 : va_at D mCl (z + 62, mE (gG D aT z b) h0 0 3) H := by rw [mE_obj (c := 0) rfl]; exact (hact 3 (by decide)).1
  have e63 : va_at D mCl (z + 63, mE (gG D aT z b) h0 20 3) H := by rw [mE_arr (ty := .int) (n := 12) rfl, mAr_int]; exact ((hact 3 (by decide)).2 0 _ rfl)
  have e64 : va_at D mCl (z + 64, mE (gG D aT z b) h0 21 3) H := by rw [mE_arr (ty := .int) (n := 12) rfl, mAr_int]; exact ((hact 3 (by decide)).2 1 _ rfl)
  have e65 : va_at D mCl (z + 65, mE (gG D aT z b) h0 22 3) H := by rw [mE_arr (ty := .int) (n := 12) rfl, mAr_int]; exact ((hact 3 (by decide)).2 2 _ rfl)
  have e66 : va_at D mCl (z + 66, mE (gG D aT z b) h0 23 3) H := by rw [mE_arr (ty := .int) (n := 12) rfl, mAr_int]; exact ((hact 3 (by decide)).2 3 _ rfl)
  have e67 : va_at D mCl (z + 67, mE (gG D aT z b) h0 3 3) H := by rw [mE_obj (c := 3) rfl]; exact ((hact 3 (by decide)).2 4 _ rfl)
  have e68 : va_at D mCl (z + 68, mE (gG D aT z b) h0 32 3) H := by rw [mE_arr (ty := .int) (n := 288) rfl, mAr_int]; exact ((hact 3 (by decide)).2 5 _ rfl)
  have e69 : va_at D mCl (z + 69, mE (gG D aT z b) h0 0 4) H := by rw [mE_obj (c := 0) rfl]; exact (hact 4 (by decide)).1
  have e70 : va_at D mCl (z + 70, mE (gG D aT z b) h0 20 4) H := by rw [mE_arr (ty := .int) (n := 12) rfl, mAr_int]; exact ((hact 4 (by decide)).2 0 _ rfl)
  have e71 : va_at D mCl (z + 71, mE (gG D aT z b) h0 21 4) H := by rw [mE_arr (ty := .int) (n := 12) rfl, mAr_int]; exact ((hact 4 (by decide)).2 1 _ rfl)
  have e72 : va_at D mCl (z + 72, mE (gG D aT z b) h0 22 4) H := by rw [mE_arr (ty := .int) (n := 12) rfl, mAr_int]; exact ((hact 4 (by decide)).2 2 _ rfl)
  have e73 : va_at D mCl (z + 73, mE (gG D aT z b) h0 23 4) H := by rw [mE_arr (ty := .int) (n := 12) rfl, mAr_int]; exact ((hact 4 (by decide)).2 3 _ rfl)
  have e74 : va_at D mCl (z + 74, mE (gG D aT z b) h0 3 4) H := by rw [mE_obj (c := 3) rfl]; exact ((hact 4 (by decide)).2 4 _ rfl)
  have e75 : va_at D mCl (z + 75, mE (gG D aT z b) h0 32 4) H := by rw [mE_arr (ty := .int) (n := 288) rfl, mAr_int]; exact ((hact 4 (by decide)).2 5 _ rfl)
  have e76 : va_at D mCl (z + 76, mE (gG D aT z b) h0 0 5) H := by rw [mE_obj (c := 0) rfl]; exact (hact 5 (by decide)).1
  have e77 : va_at D mCl (z + 77, mE (gG D aT z b) h0 20 5) H := by rw [mE_arr (ty := .int) (n := 12) rfl, mAr_int]; exact ((hact 5 (by decide)).2 0 _ rfl)
  have e78 : va_at D mCl (z + 78, mE (gG D aT z b) h0 21 5) H := by rw [mE_arr (ty := .int) (n := 12) rfl, mAr_int]; exact ((hact 5 (by decide)).2 1 _ rfl)
  have e79 : va_at D mCl (z + 79, mE (gG D aT z b) h0 22 5) H := by rw [mE_arr (ty := .int) (n := 12) rfl, mAr_int]; exact ((hact 5 (by decide)).2 2 _ rfl)
  have e80 : va_at D mCl (z + 80, mE (gG D aT z b) h0 23 5) H := by rw [mE_arr (ty := .int) (n := 12) rfl, mAr_int]; exact ((hact 5 (by decide)).2 3 _ rfl)
  have e81 : va_at D mCl (z + 81, mE (gG D aT z b) h0 3 5) H := by rw [mE_obj (c := 3) rfl]; exact ((hact 5 (by decide)).2 4 _ rfl)
  have e82 : va_at D mCl (z + 82, mE (gG D aT z b) h0 32 5) H := by rw [mE_arr (ty := .int) (n := 288) rfl, mAr_int]; exact ((hact 5 (by decide)).2 5 _ rfl)
  have e83 : va_at D mCl (z + 83, mE (gG D aT z b) h0 8 0) H := by rw [mE_obj (c := 8) rfl]; exact k83
  have e84 : va_at D mCl (z + 84, mE (gG D aT z b) h0 33 0) H := by rw [mE_arr (ty := .int) (n := 24) rfl, mAr_int]; exact (x8 hs0).1
  have e85 : va_at D mCl (z + 85, mE (gG D aT z b) h0 34 0) H := by rw [mE_arr (ty := .int) (n := 24) rfl, mAr_int]; exact (x8 hs0).2.1
  have e86 : va_at D mCl (z + 86, mE (gG D aT z b) h0 35 0) H := by rw [mE_arr (ty := .int) (n := 24) rfl, mAr_int]; exact (x8 hs0).2.2.1
  have e87 : va_at D mCl (z + 87, mE (gG D aT z b) h0 36 0) H := by rw [mE_arr (ty := .int) (n := 24) rfl, mAr_int]; exact (x8 hs0).2.2.2.1
  have e88 : va_at D mCl (z + 88, mE (gG D aT z b) h0 37 0) H := by rw [mE_arr (ty := .long) (n := 24) rfl, mAr_long]; exact (x8 hs0).2.2.2.2.1
  have e89 : va_at D mCl (z + 89, mE (gG D aT z b) h0 38 0) H := by rw [mE_arr (ty := .int) (n := 8) rfl, mAr_int]; exact (x8 hs0).2.2.2.2.2.1
  have e90 : va_at D mCl (z + 90, mE (gG D aT z b) h0 39 0) H := by rw [mE_arr (ty := .int) (n := 16) rfl, mAr_int]; exact (x8 hs0).2.2.2.2.2.2.1
  have e91 : va_at D mCl (z + 91, mE (gG D aT z b) h0 40 0) H := by rw [mE_arr (ty := .int) (n := 16) rfl, mAr_int]; exact (x8 hs0).2.2.2.2.2.2.2.1
  have e92 : va_at D mCl (z + 92, mE (gG D aT z b) h0 41 0) H := by rw [mE_arr (ty := .long) (n := 16) rfl, mAr_long]; exact (x8 hs0).2.2.2.2.2.2.2.2
  have e93 : va_at D mCl (z + 93, mE (gG D aT z b) h0 2 0) H := by rw [mE_obj (c := 2) rfl]; exact k93
  have e94 : va_at D mCl (z + 94, mE (gG D aT z b) h0 27 0) H := by rw [mE_arr (ty := (.array .int)) (n := 8) rfl, mAr_ref rfl]; exact va_q (hch 0 _ rfl) (fun k hk => g_q27 hk)
  have e95 : va_at D mCl (z + 95, mE (gG D aT z b) h0 28 0) H := by rw [mE_arr (ty := .int) (n := 16) rfl, mAr_int]; exact (hch 1 _ rfl)
  have e96 : va_at D mCl (z + 96, mE (gG D aT z b) h0 28 1) H := by rw [mE_arr (ty := .int) (n := 16) rfl, mAr_int]; exact (hch 2 _ rfl)
  have e97 : va_at D mCl (z + 97, mE (gG D aT z b) h0 28 2) H := by rw [mE_arr (ty := .int) (n := 16) rfl, mAr_int]; exact (hch 3 _ rfl)
  have e98 : va_at D mCl (z + 98, mE (gG D aT z b) h0 28 3) H := by rw [mE_arr (ty := .int) (n := 16) rfl, mAr_int]; exact (hch 4 _ rfl)
  have e99 : va_at D mCl (z + 99, mE (gG D aT z b) h0 28 4) H := by rw [mE_arr (ty := .int) (n := 16) rfl, mAr_int]; exact (hch 5 _ rfl)
  have e100 : va_at D mCl (z + 100, mE (gG D aT z b) h0 28 5) H := by rw [mE_arr (ty := .int) (n := 16) rfl, mAr_int]; exact (hch 6 _ rfl)
  have e101 : va_at D mCl (z + 101, mE (gG D aT z b) h0 28 6) H := by rw [mE_arr (ty := .int) (n := 16) rfl, mAr_int]; exact (hch 7 _ rfl)
  have e102 : va_at D mCl (z + 102, mE (gG D aT z b) h0 28 7) H := by rw [mE_arr (ty := .int) (n := 16) rfl, mAr_int]; exact (hch 8 _ rfl)
  have e103 : va_at D mCl (z + 103, mE (gG D aT z b) h0 29 0) H := by rw [mE_arr (ty := .int) (n := 8) rfl, mAr_int]; exact (hch 9 _ rfl)
  have e104 : va_at D mCl (z + 104, mE (gG D aT z b) h0 30 0) H := by rw [mE_arr (ty := .int) (n := 8) rfl, mAr_int]; exact (hch 10 _ rfl)
  have e105 : va_at D mCl (z + 105, mE (gG D aT z b) h0 31 0) H := by rw [mE_arr (ty := .int) (n := 24) rfl, mAr_int]; exact (hch 11 _ rfl)
  have e106 : va_at D mCl (z + 106, mE (gG D aT z b) h0 5 0) H := by rw [mE_obj (c := 5) rfl]; exact k106
  have e107 : va_at D mCl (z + 107, mE (gG D aT z b) h0 4 0) H := by rw [mE_obj (c := 4) rfl]; exact (hdr 0 _ rfl)
  have e108 : va_at D mCl (z + 108, mE (gG D aT z b) h0 4 1) H := by rw [mE_obj (c := 4) rfl]; exact (hdr 1 _ rfl)
  have e109 : va_at D mCl (z + 109, mE (gG D aT z b) h0 10 0) H := by rw [mE_obj (c := 10) rfl]; exact k109
  have e110 : va_at D mCl (z + 110, mE (gG D aT z b) h0 8 1) H := by rw [mE_obj (c := 8) rfl]; exact k110
  have e111 : va_at D mCl (z + 111, mE (gG D aT z b) h0 33 1) H := by rw [mE_arr (ty := .int) (n := 24) rfl, mAr_int]; exact (x8 hs1).1
  have e112 : va_at D mCl (z + 112, mE (gG D aT z b) h0 34 1) H := by rw [mE_arr (ty := .int) (n := 24) rfl, mAr_int]; exact (x8 hs1).2.1
  have e113 : va_at D mCl (z + 113, mE (gG D aT z b) h0 35 1) H := by rw [mE_arr (ty := .int) (n := 24) rfl, mAr_int]; exact (x8 hs1).2.2.1
  have e114 : va_at D mCl (z + 114, mE (gG D aT z b) h0 36 1) H := by rw [mE_arr (ty := .int) (n := 24) rfl, mAr_int]; exact (x8 hs1).2.2.2.1
  have e115 : va_at D mCl (z + 115, mE (gG D aT z b) h0 37 1) H := by rw [mE_arr (ty := .long) (n := 24) rfl, mAr_long]; exact (x8 hs1).2.2.2.2.1
  have e116 : va_at D mCl (z + 116, mE (gG D aT z b) h0 38 1) H := by rw [mE_arr (ty := .int) (n := 8) rfl, mAr_int]; exact (x8 hs1).2.2.2.2.2.1
  have e117 : va_at D mCl (z + 117, mE (gG D aT z b) h0 39 1) H := by rw [mE_arr (ty := .int) (n := 16) rfl, mAr_int]; exact (x8 hs1).2.2.2.2.2.2.1
  have e118 : va_at D mCl (z + 118, mE (gG D aT z b) h0 40 1) H := by rw [mE_arr (ty := .int) (n := 16) rfl, mAr_int]; exact (x8 hs1).2.2.2.2.2.2.2.1
  have e119 : va_at D mCl (z + 119, mE (gG D aT z b) h0 41 1) H := by rw [mE_arr (ty := .long) (n := 16) rfl, mAr_long]; exact (x8 hs1).2.2.2.2.2.2.2.2
  have e120 : va_at D mCl (z + 120, mE (gG D aT z b) h0 43 0) H := by rw [mE_arr (ty := .int) (n := 24) rfl, mAr_int]; exact k120
  have e121 : va_at D mCl (z + 121, mE (gG D aT z b) h0 44 0) H := by rw [mE_arr (ty := .int) (n := 24) rfl, mAr_int]; exact k121
  have e122 : va_at D mCl (z + 122, mE (gG D aT z b) h0 45 0) H := by rw [mE_arr (ty := (.object "DriverBook$Tape")) (n := 6) rfl, mAr_ref rfl]; exact va_q k122 (fun k hk => g_q45 hk)
  have e123 : va_at D mCl (z + 123, mE (gG D aT z b) h0 9 0) H := by rw [mE_obj (c := 9) rfl]; exact (htp 0 (by decide)).1
  have e124 : va_at D mCl (z + 124, mE (gG D aT z b) h0 42 0) H := by rw [mE_arr (ty := .long) (n := 64) rfl, mAr_long]; exact (x9 (htp 0 (by decide)).2).1
  have e125 : va_at D mCl (z + 125, mE (gG D aT z b) h0 8 2) H := by rw [mE_obj (c := 8) rfl]; exact (x9 (htp 0 (by decide)).2).2.1
  have e126 : va_at D mCl (z + 126, mE (gG D aT z b) h0 33 2) H := by rw [mE_arr (ty := .int) (n := 24) rfl, mAr_int]; exact (x8 (x9 (htp 0 (by decide)).2).2.2).1
  have e127 : va_at D mCl (z + 127, mE (gG D aT z b) h0 34 2) H := by rw [mE_arr (ty := .int) (n := 24) rfl, mAr_int]; exact (x8 (x9 (htp 0 (by decide)).2).2.2).2.1
  have e128 : va_at D mCl (z + 128, mE (gG D aT z b) h0 35 2) H := by rw [mE_arr (ty := .int) (n := 24) rfl, mAr_int]; exact (x8 (x9 (htp 0 (by decide)).2).2.2).2.2.1
  have e129 : va_at D mCl (z + 129, mE (gG D aT z b) h0 36 2) H := by rw [mE_arr (ty := .int) (n := 24) rfl, mAr_int]; exact (x8 (x9 (htp 0 (by decide)).2).2.2).2.2.2.1
  have e130 : va_at D mCl (z + 130, mE (gG D aT z b) h0 37 2) H := by rw [mE_arr (ty := .long) (n := 24) rfl, mAr_long]; exact (x8 (x9 (htp 0 (by decide)).2).2.2).2.2.2.2.1
  have e131 : va_at D mCl (z + 131, mE (gG D aT z b) h0 38 2) H := by rw [mE_arr (ty := .int) (n := 8) rfl, mAr_int]; exact (x8 (x9 (htp 0 (by decide)).2).2.2).2.2.2.2.2.1
  have e132 : va_at D mCl (z + 132, mE (gG D aT z b) h0 39 2) H := by rw [mE_arr (ty := .int) (n := 16) rfl, mAr_int]; exact (x8 (x9 (htp 0 (by decide)).2).2.2).2.2.2.2.2.2.1
  have e133 : va_at D mCl (z + 133, mE (gG D aT z b) h0 40 2) H := by rw [mE_arr (ty := .int) (n := 16) rfl, mAr_int]; exact (x8 (x9 (htp 0 (by decide)).2).2.2).2.2.2.2.2.2.2.1
  have e134 : va_at D mCl (z + 134, mE (gG D aT z b) h0 41 2) H := by rw [mE_arr (ty := .long) (n := 16) rfl, mAr_long]; exact (x8 (x9 (htp 0 (by decide)).2).2.2).2.2.2.2.2.2.2.2
  have e135 : va_at D mCl (z + 135, mE (gG D aT z b) h0 9 1) H := by rw [mE_obj (c := 9) rfl]; exact (htp 1 (by decide)).1
  have e136 : va_at D mCl (z + 136, mE (gG D aT z b) h0 42 1) H := by rw [mE_arr (ty := .long) (n := 64) rfl, mAr_long]; exact (x9 (htp 1 (by decide)).2).1
  have e137 : va_at D mCl (z + 137, mE (gG D aT z b) h0 8 3) H := by rw [mE_obj (c := 8) rfl]; exact (x9 (htp 1 (by decide)).2).2.1
  have e138 : va_at D mCl (z + 138, mE (gG D aT z b) h0 33 3) H := by rw [mE_arr (ty := .int) (n := 24) rfl, mAr_int]; exact (x8 (x9 (htp 1 (by decide)).2).2.2).1
  have e139 : va_at D mCl (z + 139, mE (gG D aT z b) h0 34 3) H := by rw [mE_arr (ty := .int) (n := 24) rfl, mAr_int]; exact (x8 (x9 (htp 1 (by decide)).2).2.2).2.1
  have e140 : va_at D mCl (z + 140, mE (gG D aT z b) h0 35 3) H := by rw [mE_arr (ty := .int) (n := 24) rfl, mAr_int]; exact (x8 (x9 (htp 1 (by decide)).2).2.2).2.2.1
  have e141 : va_at D mCl (z + 141, mE (gG D aT z b) h0 36 3) H := by rw [mE_arr (ty := .int) (n := 24) rfl, mAr_int]; exact (x8 (x9 (htp 1 (by decide)).2).2.2).2.2.2.1
  have e142 : va_at D mCl (z + 142, mE (gG D aT z b) h0 37 3) H := by rw [mE_arr (ty := .long) (n := 24) rfl, mAr_long]; exact (x8 (x9 (htp 1 (by decide)).2).2.2).2.2.2.2.1
  have e143 : va_at D mCl (z + 143, mE (gG D aT z b) h0 38 3) H := by rw [mE_arr (ty := .int) (n := 8) rfl, mAr_int]; exact (x8 (x9 (htp 1 (by decide)).2).2.2).2.2.2.2.2.1
  have e144 : va_at D mCl (z + 144, mE (gG D aT z b) h0 39 3) H := by rw [mE_arr (ty := .int) (n := 16) rfl, mAr_int]; exact (x8 (x9 (htp 1 (by decide)).2).2.2).2.2.2.2.2.2.1
  have e145 : va_at D mCl (z + 145, mE (gG D aT z b) h0 40 3) H := by rw [mE_arr (ty := .int) (n := 16) rfl, mAr_int]; exact (x8 (x9 (htp 1 (by decide)).2).2.2).2.2.2.2.2.2.2.1
  have e146 : va_at D mCl (z + 146, mE (gG D aT z b) h0 41 3) H := by rw [mE_arr (ty := .long) (n := 16) rfl, mAr_long]; exact (x8 (x9 (htp 1 (by decide)).2).2.2).2.2.2.2.2.2.2.2
  have e147 : va_at D mCl (z + 147, mE (gG D aT z b) h0 9 2) H := by rw [mE_obj (c := 9) rfl]; exact (htp 2 (by decide)).1
  have e148 : va_at D mCl (z + 148, mE (gG D aT z b) h0 42 2) H := by rw [mE_arr (ty := .long) (n := 64) rfl, mAr_long]; exact (x9 (htp 2 (by decide)).2).1
  have e149 : va_at D mCl (z + 149, mE (gG D aT z b) h0 8 4) H := by rw [mE_obj (c := 8) rfl]; exact (x9 (htp 2 (by decide)).2).2.1
  have e150 : va_at D mCl (z + 150, mE (gG D aT z b) h0 33 4) H := by rw [mE_arr (ty := .int) (n := 24) rfl, mAr_int]; exact (x8 (x9 (htp 2 (by decide)).2).2.2).1
  have e151 : va_at D mCl (z + 151, mE (gG D aT z b) h0 34 4) H := by rw [mE_arr (ty := .int) (n := 24) rfl, mAr_int]; exact (x8 (x9 (htp 2 (by decide)).2).2.2).2.1
  have e152 : va_at D mCl (z + 152, mE (gG D aT z b) h0 35 4) H := by rw [mE_arr (ty := .int) (n := 24) rfl, mAr_int]; exact (x8 (x9 (htp 2 (by decide)).2).2.2).2.2.1
  have e153 : va_at D mCl (z + 153, mE (gG D aT z b) h0 36 4) H := by rw [mE_arr (ty := .int) (n := 24) rfl, mAr_int]; exact (x8 (x9 (htp 2 (by decide)).2).2.2).2.2.2.1
  have e154 : va_at D mCl (z + 154, mE (gG D aT z b) h0 37 4) H := by rw [mE_arr (ty := .long) (n := 24) rfl, mAr_long]; exact (x8 (x9 (htp 2 (by decide)).2).2.2).2.2.2.2.1
  have e155 : va_at D mCl (z + 155, mE (gG D aT z b) h0 38 4) H := by rw [mE_arr (ty := .int) (n := 8) rfl, mAr_int]; exact (x8 (x9 (htp 2 (by decide)).2).2.2).2.2.2.2.2.1
  have e156 : va_at D mCl (z + 156, mE (gG D aT z b) h0 39 4) H := by rw [mE_arr (ty := .int) (n := 16) rfl, mAr_int]; exact (x8 (x9 (htp 2 (by decide)).2).2.2).2.2.2.2.2.2.1
  have e157 : va_at D mCl (z + 157, mE (gG D aT z b) h0 40 4) H := by rw [mE_arr (ty := .int) (n := 16) rfl, mAr_int]; exact (x8 (x9 (htp 2 (by decide)).2).2.2).2.2.2.2.2.2.2.1
  have e158 : va_at D mCl (z + 158, mE (gG D aT z b) h0 41 4) H := by rw [mE_arr (ty := .long) (n := 16) rfl, mAr_long]; exact (x8 (x9 (htp 2 (by decide)).2).2.2).2.2.2.2.2.2.2.2
  have e159 : va_at D mCl (z + 159, mE (gG D aT z b) h0 9 3) H := by rw [mE_obj (c := 9) rfl]; exact (htp 3 (by decide)).1
  have e160 : va_at D mCl (z + 160, mE (gG D aT z b) h0 42 3) H := by rw [mE_arr (ty := .long) (n := 64) rfl, mAr_long]; exact (x9 (htp 3 (by decide)).2).1
  have e161 : va_at D mCl (z + 161, mE (gG D aT z b) h0 8 5) H := by rw [mE_obj (c := 8) rfl]; exact (x9 (htp 3 (by decide)).2).2.1
  have e162 : va_at D mCl (z + 162, mE (gG D aT z b) h0 33 5) H := by rw [mE_arr (ty := .int) (n := 24) rfl, mAr_int]; exact (x8 (x9 (htp 3 (by decide)).2).2.2).1
  have e163 : va_at D mCl (z + 163, mE (gG D aT z b) h0 34 5) H := by rw [mE_arr (ty := .int) (n := 24) rfl, mAr_int]; exact (x8 (x9 (htp 3 (by decide)).2).2.2).2.1
  have e164 : va_at D mCl (z + 164, mE (gG D aT z b) h0 35 5) H := by rw [mE_arr (ty := .int) (n := 24) rfl, mAr_int]; exact (x8 (x9 (htp 3 (by decide)).2).2.2).2.2.1
  have e165 : va_at D mCl (z + 165, mE (gG D aT z b) h0 36 5) H := by rw [mE_arr (ty := .int) (n := 24) rfl, mAr_int]; exact (x8 (x9 (htp 3 (by decide)).2).2.2).2.2.2.1
  have e166 : va_at D mCl (z + 166, mE (gG D aT z b) h0 37 5) H := by rw [mE_arr (ty := .long) (n := 24) rfl, mAr_long]; exact (x8 (x9 (htp 3 (by decide)).2).2.2).2.2.2.2.1
  have e167 : va_at D mCl (z + 167, mE (gG D aT z b) h0 38 5) H := by rw [mE_arr (ty := .int) (n := 8) rfl, mAr_int]; exact (x8 (x9 (htp 3 (by decide)).2).2.2).2.2.2.2.2.1
  have e168 : va_at D mCl (z + 168, mE (gG D aT z b) h0 39 5) H := by rw [mE_arr (ty := .int) (n := 16) rfl, mAr_int]; exact (x8 (x9 (htp 3 (by decide)).2).2.2).2.2.2.2.2.2.1
  have e169 : va_at D mCl (z + 169, mE (gG D aT z b) h0 40 5) H := by rw [mE_arr (ty := .int) (n := 16) rfl, mAr_int]; exact (x8 (x9 (htp 3 (by decide)).2).2.2).2.2.2.2.2.2.2.1
  have e170 : va_at D mCl (z + 170, mE (gG D aT z b) h0 41 5) H := by rw [mE_arr (ty := .long) (n := 16) rfl, mAr_long]; exact (x8 (x9 (htp 3 (by decide)).2).2.2).2.2.2.2.2.2.2.2
  have e171 : va_at D mCl (z + 171, mE (gG D aT z b) h0 9 4) H := by rw [mE_obj (c := 9) rfl]; exact (htp 4 (by decide)).1
  have e172 : va_at D mCl (z + 172, mE (gG D aT z b) h0 42 4) H := by rw [mE_arr (ty := .long) (n := 64) rfl, mAr_long]; exact (x9 (htp 4 (by decide)).2).1
  have e173 : va_at D mCl (z + 173, mE (gG D aT z b) h0 8 6) H := by rw [mE_obj (c := 8) rfl]; exact (x9 (htp 4 (by decide)).2).2.1
  have e174 : va_at D mCl (z + 174, mE (gG D aT z b) h0 33 6) H := by rw [mE_arr (ty := .int) (n := 24) rfl, mAr_int]; exact (x8 (x9 (htp 4 (by decide)).2).2.2).1
  have e175 : va_at D mCl (z + 175, mE (gG D aT z b) h0 34 6) H := by rw [mE_arr (ty := .int) (n := 24) rfl, mAr_int]; exact (x8 (x9 (htp 4 (by decide)).2).2.2).2.1
  have e176 : va_at D mCl (z + 176, mE (gG D aT z b) h0 35 6) H := by rw [mE_arr (ty := .int) (n := 24) rfl, mAr_int]; exact (x8 (x9 (htp 4 (by decide)).2).2.2).2.2.1
  have e177 : va_at D mCl (z + 177, mE (gG D aT z b) h0 36 6) H := by rw [mE_arr (ty := .int) (n := 24) rfl, mAr_int]; exact (x8 (x9 (htp 4 (by decide)).2).2.2).2.2.2.1
  have e178 : va_at D mCl (z + 178, mE (gG D aT z b) h0 37 6) H := by rw [mE_arr (ty := .long) (n := 24) rfl, mAr_long]; exact (x8 (x9 (htp 4 (by decide)).2).2.2).2.2.2.2.1
  have e179 : va_at D mCl (z + 179, mE (gG D aT z b) h0 38 6) H := by rw [mE_arr (ty := .int) (n := 8) rfl, mAr_int]; exact (x8 (x9 (htp 4 (by decide)).2).2.2).2.2.2.2.2.1
  have e180 : va_at D mCl (z + 180, mE (gG D aT z b) h0 39 6) H := by rw [mE_arr (ty := .int) (n := 16) rfl, mAr_int]; exact (x8 (x9 (htp 4 (by decide)).2).2.2).2.2.2.2.2.2.1
  have e181 : va_at D mCl (z + 181, mE (gG D aT z b) h0 40 6) H := by rw [mE_arr (ty := .int) (n := 16) rfl, mAr_int]; exact (x8 (x9 (htp 4 (by decide)).2).2.2).2.2.2.2.2.2.2.1
  have e182 : va_at D mCl (z + 182, mE (gG D aT z b) h0 41 6) H := by rw [mE_arr (ty := .long) (n := 16) rfl, mAr_long]; exact (x8 (x9 (htp 4 (by decide)).2).2.2).2.2.2.2.2.2.2.2
  have e183 : va_at D mCl (z + 183, mE (gG D aT z b) h0 9 5) H := by rw [mE_obj (c := 9) rfl]; exact (htp 5 (by decide)).1
  have e184 : va_at D mCl (z + 184, mE (gG D aT z b) h0 42 5) H := by rw [mE_arr (ty := .long) (n := 64) rfl, mAr_long]; exact (x9 (htp 5 (by decide)).2).1
  have e185 : va_at D mCl (z + 185, mE (gG D aT z b) h0 8 7) H := by rw [mE_obj (c := 8) rfl]; exact (x9 (htp 5 (by decide)).2).2.1
  have e186 : va_at D mCl (z + 186, mE (gG D aT z b) h0 33 7) H := by rw [mE_arr (ty := .int) (n := 24) rfl, mAr_int]; exact (x8 (x9 (htp 5 (by decide)).2).2.2).1
  have e187 : va_at D mCl (z + 187, mE (gG D aT z b) h0 34 7) H := by rw [mE_arr (ty := .int) (n := 24) rfl, mAr_int]; exact (x8 (x9 (htp 5 (by decide)).2).2.2).2.1
  have e188 : va_at D mCl (z + 188, mE (gG D aT z b) h0 35 7) H := by rw [mE_arr (ty := .int) (n := 24) rfl, mAr_int]; exact (x8 (x9 (htp 5 (by decide)).2).2.2).2.2.1
  have e189 : va_at D mCl (z + 189, mE (gG D aT z b) h0 36 7) H := by rw [mE_arr (ty := .int) (n := 24) rfl, mAr_int]; exact (x8 (x9 (htp 5 (by decide)).2).2.2).2.2.2.1
  have e190 : va_at D mCl (z + 190, mE (gG D aT z b) h0 37 7) H := by rw [mE_arr (ty := .long) (n := 24) rfl, mAr_long]; exact (x8 (x9 (htp 5 (by decide)).2).2.2).2.2.2.2.1
  have e191 : va_at D mCl (z + 191, mE (gG D aT z b) h0 38 7) H := by rw [mE_arr (ty := .int) (n := 8) rfl, mAr_int]; exact (x8 (x9 (htp 5 (by decide)).2).2.2).2.2.2.2.2.1
  have e192 : va_at D mCl (z + 192, mE (gG D aT z b) h0 39 7) H := by rw [mE_arr (ty := .int) (n := 16) rfl, mAr_int]; exact (x8 (x9 (htp 5 (by decide)).2).2.2).2.2.2.2.2.2.1
  have e193 : va_at D mCl (z + 193, mE (gG D aT z b) h0 40 7) H := by rw [mE_arr (ty := .int) (n := 16) rfl, mAr_int]; exact (x8 (x9 (htp 5 (by decide)).2).2.2).2.2.2.2.2.2.2.1
  have e194 : va_at D mCl (z + 194, mE (gG D aT z b) h0 41 7) H := by rw [mE_arr (ty := .long) (n := 16) rfl, mAr_long]; exact (x8 (x9 (htp 5 (by decide)).2).2.2).2.2.2.2.2.2.2.2
  have e195 : va_at D mCl (z + 195, mE (gG D aT z b) h0 12 0) H := by rw [mE_obj (c := 12) rfl]; exact k195
  have e196 : va_at D mCl (z + 196, mE (gG D aT z b) h0 46 0) H := by rw [mE_arr (ty := .int) (n := 24) rfl, mAr_int]; exact (h12 0 _ rfl)
  have e197 : va_at D mCl (z + 197, mE (gG D aT z b) h0 47 0) H := by rw [mE_arr (ty := .int) (n := 24) rfl, mAr_int]; exact (h12 1 _ rfl)
  have e198 : va_at D mCl (z + 198, mE (gG D aT z b) h0 48 0) H := by rw [mE_arr (ty := .int) (n := 24) rfl, mAr_int]; exact (h12 2 _ rfl)
  have e199 : va_at D mCl (z + 199, mE (gG D aT z b) h0 49 0) H := by rw [mE_arr (ty := .int) (n := 24) rfl, mAr_int]; exact (h12 3 _ rfl)
  have e200 : va_at D mCl (z + 200, mE (gG D aT z b) h0 50 0) H := by rw [mE_arr (ty := .int) (n := 24) rfl, mAr_int]; exact (h12 4 _ rfl)
  have e201 : va_at D mCl (z + 201, mE (gG D aT z b) h0 51 0) H := by rw [mE_arr (ty := .int) (n := 24) rfl, mAr_int]; exact (h12 5 _ rfl)
  have e202 : va_at D mCl (z + 202, mE (gG D aT z b) h0 52 0) H := by rw [mE_arr (ty := .int) (n := 24) rfl, mAr_int]; exact (h12 6 _ rfl)
  have e203 : va_at D mCl (z + 203, mE (gG D aT z b) h0 53 0) H := by rw [mE_arr (ty := .int) (n := 24) rfl, mAr_int]; exact (h12 7 _ rfl)
  have e204 : va_at D mCl (z + 204, mE (gG D aT z b) h0 54 0) H := by rw [mE_arr (ty := .int) (n := 12) rfl, mAr_int]; exact (h12 8 _ rfl)
  have e205 : va_at D mCl (z + 205, mE (gG D aT z b) h0 55 0) H := by rw [mE_arr (ty := .int) (n := 12) rfl, mAr_int]; exact (h12 9 _ rfl)
  have e206 : va_at D mCl (z + 206, mE (gG D aT z b) h0 56 0) H := by rw [mE_arr (ty := .int) (n := 12) rfl, mAr_int]; exact (h12 10 _ rfl)
  have e207 : va_at D mCl (z + 207, mE (gG D aT z b) h0 57 0) H := by rw [mE_arr (ty := .int) (n := 12) rfl, mAr_int]; exact (h12 11 _ rfl)
  have e208 : va_at D mCl (z + 208, mE (gG D aT z b) h0 58 0) H := by rw [mE_arr (ty := .int) (n := 6) rfl, mAr_int]; exact (h12 12 _ rfl)
  have e209 : va_at D mCl (z + 209, mE (gG D aT z b) h0 59 0) H := by rw [mE_arr (ty := .int) (n := 72) rfl, mAr_int]; exact (h12 13 _ rfl)
  have e210 : va_at D mCl (z + 210, mE (gG D aT z b) h0 60 0) H := by rw [mE_arr (ty := .int) (n := 72) rfl, mAr_int]; exact (h12 14 _ rfl)
  have e211 : va_at D mCl (z + 211, mE (gG D aT z b) h0 61 0) H := by rw [mE_arr (ty := .int) (n := 72) rfl, mAr_int]; exact (h12 15 _ rfl)
  have e212 : va_at D mCl (z + 212, mE (gG D aT z b) h0 62 0) H := by rw [mE_arr (ty := .int) (n := 72) rfl, mAr_int]; exact (h12 16 _ rfl)
  have e213 : va_at D mCl (z + 213, mE (gG D aT z b) h0 63 0) H := by rw [mE_arr (ty := .int) (n := 24) rfl, mAr_int]; exact (h12 17 _ rfl)
  have e214 : va_at D mCl (z + 214, mE (gG D aT z b) h0 64 0) H := by rw [mE_arr (ty := .int) (n := 24) rfl, mAr_int]; exact (h12 18 _ rfl)
  have e215 : va_at D mCl (z + 215, mE (gG D aT z b) h0 65 0) H := by rw [mE_arr (ty := .int) (n := 24) rfl, mAr_int]; exact (h12 19 _ rfl)
  have e216 : va_at D mCl (z + 216, mE (gG D aT z b) h0 66 0) H := by rw [mE_arr (ty := .int) (n := 24) rfl, mAr_int]; exact (h12 20 _ rfl)
  have e217 : va_at D mCl (z + 217, mE (gG D aT z b) h0 67 0) H := by rw [mE_arr (ty := .int) (n := 24) rfl, mAr_int]; exact (h12 21 _ rfl)
  have e218 : va_at D mCl (z + 218, mE (gG D aT z b) h0 68 0) H := by rw [mE_arr (ty := .int) (n := 8) rfl, mAr_int]; exact (h12 22 _ rfl)
  have e219 : va_at D mCl (z + 219, mE (gG D aT z b) h0 69 0) H := by rw [mE_arr (ty := .int) (n := 17) rfl, mAr_int]; exact (h12 23 _ rfl)
  have e220 : va_at D mCl (z + 220, mE (gG D aT z b) h0 70 0) H := by rw [mE_arr (ty := .int) (n := 17) rfl, mAr_int]; exact (h12 24 _ rfl)
  have e221 : va_at D mCl (z + 221, mE (gG D aT z b) h0 71 0) H := by rw [mE_arr (ty := .int) (n := 17) rfl, mAr_int]; exact (h12 25 _ rfl)
  have e222 : va_at D mCl (z + 222, mE (gG D aT z b) h0 72 0) H := by rw [mE_arr (ty := .int) (n := 8) rfl, mAr_int]; exact (h12 26 _ rfl)
  have e223 : va_at D mCl (z + 223, mE (gG D aT z b) h0 73 0) H := by rw [mE_arr (ty := .int) (n := 192) rfl, mAr_int]; exact (h12 27 _ rfl)
  have e224 : va_at D mCl (z + 224, mE (gG D aT z b) h0 74 0) H := by rw [mE_arr (ty := .int) (n := 192) rfl, mAr_int]; exact (h12 28 _ rfl)
  have e225 : va_at D mCl (z + 225, mE (gG D aT z b) h0 75 0) H := by rw [mE_arr (ty := .int) (n := 192) rfl, mAr_int]; exact (h12 29 _ rfl)
  have e226 : va_at D mCl (z + 226, mE (gG D aT z b) h0 76 0) H := by rw [mE_arr (ty := .int) (n := 192) rfl, mAr_int]; exact (h12 30 _ rfl)
  have e227 : va_at D mCl (z + 227, mE (gG D aT z b) h0 77 0) H := by rw [mE_arr (ty := .int) (n := 192) rfl, mAr_int]; exact (h12 31 _ rfl)
  have e228 : va_at D mCl (z + 228, mE (gG D aT z b) h0 78 0) H := by rw [mE_arr (ty := .int) (n := 64) rfl, mAr_int]; exact (h12 32 _ rfl)
  have e229 : va_at D mCl (z + 229, mE (gG D aT z b) h0 79 0) H := by rw [mE_arr (ty := .int) (n := 8) rfl, mAr_int]; exact (h12 33 _ rfl)
  have e230 : va_at D mCl (z + 230, mE (gG D aT z b) h0 80 0) H := by rw [mE_arr (ty := .int) (n := 136) rfl, mAr_int]; exact (h12 34 _ rfl)
  have e231 : va_at D mCl (z + 231, mE (gG D aT z b) h0 81 0) H := by rw [mE_arr (ty := .int) (n := 136) rfl, mAr_int]; exact (h12 35 _ rfl)
  have e232 : va_at D mCl (z + 232, mE (gG D aT z b) h0 82 0) H := by rw [mE_arr (ty := .int) (n := 136) rfl, mAr_int]; exact (h12 36 _ rfl)
  have e233 : va_at D mCl (z + 233, mE (gG D aT z b) h0 83 0) H := by rw [mE_arr (ty := .int) (n := 8) rfl, mAr_int]; exact (h12 37 _ rfl)
  have e234 : va_at D mCl (z + 234, mE (gG D aT z b) h0 84 0) H := by rw [mE_arr (ty := .int) (n := 8) rfl, mAr_int]; exact (h12 38 _ rfl)
  have e235 : va_at D mCl (z + 235, mE (gG D aT z b) h0 85 0) H := by rw [mE_arr (ty := .int) (n := 8) rfl, mAr_int]; exact (h12 39 _ rfl)
  have e236 : va_at D mCl (z + 236, mE (gG D aT z b) h0 86 0) H := by rw [mE_arr (ty := .int) (n := 8) rfl, mAr_int]; exact (h12 40 _ rfl)
  have e237 : va_at D mCl (z + 237, mE (gG D aT z b) h0 87 0) H := by rw [mE_arr (ty := .int) (n := 8) rfl, mAr_int]; exact (h12 41 _ rfl)
  have e238 : va_at D mCl (z + 238, mE (gG D aT z b) h0 88 0) H := by rw [mE_arr (ty := .int) (n := 8) rfl, mAr_int]; exact (h12 42 _ rfl)
  have e239 : va_at D mCl (z + 239, mE (gG D aT z b) h0 89 0) H := by rw [mE_arr (ty := .int) (n := 6) rfl, mAr_int]; exact (h12 43 _ rfl)
  have e240 : va_at D mCl (z + 240, mE (gG D aT z b) h0 90 0) H := by rw [mE_arr (ty := .int) (n := 6) rfl, mAr_int]; exact (h12 44 _ rfl)
  have e241 : va_at D mCl (z + 241, mE (gG D aT z b) h0 91 0) H := by rw [mE_arr (ty := .long) (n := 384) rfl, mAr_long]; exact (h12 45 _ rfl)
  have e242 : va_at D mCl (z + 242, mE (gG D aT z b) h0 92 0) H := by rw [mE_arr (ty := .boolean) (n := 24) rfl, mAr_bool]; exact (h12 46 _ rfl)
  have e243 : va_at D mCl (z + 243, mE (gG D aT z b) h0 93 0) H := by rw [mE_arr (ty := .int) (n := 2) rfl, mAr_int]; exact (h12 47 _ rfl)
  have e244 : va_at D mCl (z + 244, mE (gG D aT z b) h0 94 0) H := by rw [mE_arr (ty := .int) (n := 600) rfl, mAr_int]; exact (h12 48 _ rfl)
  have e245 : va_at D mCl (z + 245, mE (gG D aT z b) h0 95 0) H := by rw [mE_arr (ty := .int) (n := 2) rfl, mAr_int]; exact (h12 49 _ rfl)
  have e246 : va_at D mCl (z + 246, mE (gG D aT z b) h0 96 0) H := by rw [mE_arr (ty := .long) (n := 64) rfl, mAr_long]; exact (h12 50 _ rfl)
  have e247 : va_at D mCl (z + 247, mE (gG D aT z b) h0 98 0) H := by rw [mE_arr (ty := .long) (n := 1) rfl, mAr_long]; exact k247
  exact gC.mk e0 (gC.mk e1 (gC.mk e2 (gC.mk e3 (gC.mk e4 (gC.mk e5 (gC.mk e6 (gC.mk e7 (gC.mk e8 (gC.mk e9 (gC.mk e10 (gC.mk e11 (gC.mk e12 (gC.mk e13 (gC.mk e14 (gC.mk e15 (gC.mk e16 (gC.mk e17 (gC.mk e18 (gC.mk e19 (gC.mk e20 (gC.mk e21 (gC.mk e22 (gC.mk e23 (gC.mk e24 (gC.mk e25 (gC.mk e26 (gC.mk e27 (gC.mk e28 (gC.mk e29 (gC.mk e30 (gC.mk e31 (gC.mk e32 (gC.mk e33 (gC.mk e34 (gC.mk e35 (gC.mk e36 (gC.mk e37 (gC.mk e38 (gC.mk e39 (gC.mk e40 (gC.mk e41 (gC.mk e42 (gC.mk e43 (gC.mk e44 (gC.mk e45 (gC.mk e46 (gC.mk e47 (gC.mk e48 (gC.mk e49 (gC.mk e50 (gC.mk e51 (gC.mk e52 (gC.mk e53 (gC.mk e54 (gC.mk e55 (gC.mk e56 (gC.mk e57 (gC.mk e58 (gC.mk e59 (gC.mk e60 (gC.mk e61 (gC.mk e62 (gC.mk e63 (gC.mk e64 (gC.mk e65 (gC.mk e66 (gC.mk e67 (gC.mk e68 (gC.mk e69 (gC.mk e70 (gC.mk e71 (gC.mk e72 (gC.mk e73 (gC.mk e74 (gC.mk e75 (gC.mk e76 (gC.mk e77 (gC.mk e78 (gC.mk e79 (gC.mk e80 (gC.mk e81 (gC.mk e82 (gC.mk e83 (gC.mk e84 (gC.mk e85 (gC.mk e86 (gC.mk e87 (gC.mk e88 (gC.mk e89 (gC.mk e90 (gC.mk e91 (gC.mk e92 (gC.mk e93 (gC.mk e94 (gC.mk e95 (gC.mk e96 (gC.mk e97 (gC.mk e98 (gC.mk e99 (gC.mk e100 (gC.mk e101 (gC.mk e102 (gC.mk e103 (gC.mk e104 (gC.mk e105 (gC.mk e106 (gC.mk e107 (gC.mk e108 (gC.mk e109 (gC.mk e110 (gC.mk e111 (gC.mk e112 (gC.mk e113 (gC.mk e114 (gC.mk e115 (gC.mk e116 (gC.mk e117 (gC.mk e118 (gC.mk e119 (gC.mk e120 (gC.mk e121 (gC.mk e122 (gC.mk e123 (gC.mk e124 (gC.mk e125 (gC.mk e126 (gC.mk e127 (gC.mk e128 (gC.mk e129 (gC.mk e130 (gC.mk e131 (gC.mk e132 (gC.mk e133 (gC.mk e134 (gC.mk e135 (gC.mk e136 (gC.mk e137 (gC.mk e138 (gC.mk e139 (gC.mk e140 (gC.mk e141 (gC.mk e142 (gC.mk e143 (gC.mk e144 (gC.mk e145 (gC.mk e146 (gC.mk e147 (gC.mk e148 (gC.mk e149 (gC.mk e150 (gC.mk e151 (gC.mk e152 (gC.mk e153 (gC.mk e154 (gC.mk e155 (gC.mk e156 (gC.mk e157 (gC.mk e158 (gC.mk e159 (gC.mk e160 (gC.mk e161 (gC.mk e162 (gC.mk e163 (gC.mk e164 (gC.mk e165 (gC.mk e166 (gC.mk e167 (gC.mk e168 (gC.mk e169 (gC.mk e170 (gC.mk e171 (gC.mk e172 (gC.mk e173 (gC.mk e174 (gC.mk e175 (gC.mk e176 (gC.mk e177 (gC.mk e178 (gC.mk e179 (gC.mk e180 (gC.mk e181 (gC.mk e182 (gC.mk e183 (gC.mk e184 (gC.mk e185 (gC.mk e186 (gC.mk e187 (gC.mk e188 (gC.mk e189 (gC.mk e190 (gC.mk e191 (gC.mk e192 (gC.mk e193 (gC.mk e194 (gC.mk e195 (gC.mk e196 (gC.mk e197 (gC.mk e198 (gC.mk e199 (gC.mk e200 (gC.mk e201 (gC.mk e202 (gC.mk e203 (gC.mk e204 (gC.mk e205 (gC.mk e206 (gC.mk e207 (gC.mk e208 (gC.mk e209 (gC.mk e210 (gC.mk e211 (gC.mk e212 (gC.mk e213 (gC.mk e214 (gC.mk e215 (gC.mk e216 (gC.mk e217 (gC.mk e218 (gC.mk e219 (gC.mk e220 (gC.mk e221 (gC.mk e222 (gC.mk e223 (gC.mk e224 (gC.mk e225 (gC.mk e226 (gC.mk e227 (gC.mk e228 (gC.mk e229 (gC.mk e230 (gC.mk e231 (gC.mk e232 (gC.mk e233 (gC.mk e234 (gC.mk e235 (gC.mk e236 (gC.mk e237 (gC.mk e238 (gC.mk e239 (gC.mk e240 (gC.mk e241 (gC.mk e242 (gC.mk e243 (gC.mk e244 (gC.mk e245 (gC.mk e246 (gC.mk e247 (gC.nil))))))))))))))))))))))))))))))))))))))))))))))))))))))))))))))))))))))))))))))))))))))))))))))))))))))))))))))))))))))))))))))))))))))))))))))))))))))))))))))))))))))))))))))))))))))))))))))))))))))))))))))))))))))))))))))))))))))))))))))))))))))))
