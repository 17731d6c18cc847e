def lBay : List Nat := [1, 11]
def lFleet : List Nat := [21, 27, 33]
def lDesk : List Nat := [39, 42]
def lLaw : List Nat := [5, 8, 15, 18, 51]
def lSheet : List Nat := [57, 59, 61, 63]
def cShL : List xSh := [.inr (.inl (8, [some 1, some 21, some 39, some 11, some 27, some 42, none, some 33, some 45, some 49, some 54, some 56, some 65])), .inr (.inl (0, [none, none, none, none, some 2, some 3, some 4, some 5, some 8])), .inl 8, .inl 8, .inl 8, .inr (.inl (4, [none, some 6, some 7])), .inl 50, .inl 50, .inr (.inl (4, [none, some 9, some 10])), .inl 50, .inl 50, .inr (.inl (0, [none, none, none, none, some 12, some 13, some 14, some 15, some 18])), .inl 8, .inl 8, .inl 8, .inr (.inl (4, [none, some 16, some 17])), .inl 50, .inl 50, .inr (.inl (4, [none, some 19, some 20])), .inl 50, .inl 50, .inr (.inl (3, [none, none, some 22, some 23, some 24, some 25, some 26])), .inl 7, .inl 7, .inl 7, .inl 7, .inl 7, .inr (.inl (3, [none, none, some 28, some 29, some 30, some 31, some 32])), .inl 7, .inl 7, .inl 7, .inl 7, .inl 7, .inr (.inl (3, [none, none, some 34, some 35, some 36, some 37, some 38])), .inl 7, .inl 7, .inl 7, .inl 7, .inl 7, .inr (.inl (2, [none, none, none, some 40, some 41])), .inl 50, .inl 20, .inr (.inl (2, [none, none, none, some 43, some 44])), .inl 50, .inl 20, .inr (.inl (1, [none, none, some 46, some 47, some 48])), .inl 8, .inl 8, .inl 8, .inr (.inl (5, [some 50, none, none, none, some 51])), .inl 50, .inr (.inl (4, [none, some 52, some 53])), .inl 50, .inl 50, .inr (.inl (7, [none, some 55, none, none, none])), .inl 40, .inr (.inr [57, 59, 61, 63]), .inr (.inl (6, [none, none, some 58])), .inl 40, .inr (.inl (6, [none, none, some 60])), .inl 40, .inr (.inl (6, [none, none, some 62])), .inl 40, .inr (.inl (6, [none, none, some 64])), .inl 40, .inl 6]
def cSh : Nat → xSh := fun k => cShL.getD k (.inl 0)
abbrev xC1 (G : xG) : Prop := gS G = cSh ∧ gN G = 66
theorem nc_0 {G : xG} (hG : xC1 G) : gS G 0 = .inr (.inl (8, [some 1, some 21, some 39, some 11, some 27, some 42, none, some 33, some 45, some 49, some 54, some 56, some 65])) ∧ 0 < gN G := ⟨by rw [hG.1]; rfl, by rw [hG.2]; decide⟩
theorem nc_1 {G : xG} (hG : xC1 G) : gS G 1 = .inr (.inl (0, [none, none, none, none, some 2, some 3, some 4, some 5, some 8])) ∧ 1 < gN G := ⟨by rw [hG.1]; rfl, by rw [hG.2]; decide⟩
theorem nc_2 {G : xG} (hG : xC1 G) : gS G 2 = .inl 8 ∧ 2 < gN G := ⟨by rw [hG.1]; rfl, by rw [hG.2]; decide⟩
theorem nc_3 {G : xG} (hG : xC1 G) : gS G 3 = .inl 8 ∧ 3 < gN G := ⟨by rw [hG.1]; rfl, by rw [hG.2]; decide⟩
theorem nc_4 {G : xG} (hG : xC1 G) : gS G 4 = .inl 8 ∧ 4 < gN G := ⟨by rw [hG.1]; rfl, by rw [hG.2]; decide⟩
theorem nc_5 {G : xG} (hG : xC1 G) : gS G 5 = .inr (.inl (4, [none, some 6, some 7])) ∧ 5 < gN G := ⟨by rw [hG.1]; rfl, by rw [hG.2]; decide⟩
theorem nc_6 {G : xG} (hG : xC1 G) : gS G 6 = .inl 50 ∧ 6 < gN G := ⟨by rw [hG.1]; rfl, by rw [hG.2]; decide⟩
theorem nc_7 {G : xG} (hG : xC1 G) : gS G 7 = .inl 50 ∧ 7 < gN G := ⟨by rw [hG.1]; rfl, by rw [hG.2]; decide⟩
theorem nc_8 {G : xG} (hG : xC1 G) : gS G 8 = .inr (.inl (4, [none, some 9, some 10])) ∧ 8 < gN G := ⟨by rw [hG.1]; rfl, by rw [hG.2]; decide⟩
theorem nc_9 {G : xG} (hG : xC1 G) : gS G 9 = .inl 50 ∧ 9 < gN G := ⟨by rw [hG.1]; rfl, by rw [hG.2]; decide⟩
theorem nc_10 {G : xG} (hG : xC1 G) : gS G 10 = .inl 50 ∧ 10 < gN G := ⟨by rw [hG.1]; rfl, by rw [hG.2]; decide⟩
theorem nc_11 {G : xG} (hG : xC1 G) : gS G 11 = .inr (.inl (0, [none, none, none, none, some 12, some 13, some 14, some 15, some 18])) ∧ 11 < gN G := ⟨by rw [hG.1]; rfl, by rw [hG.2]; decide⟩
theorem nc_12 {G : xG} (hG : xC1 G) : gS G 12 = .inl 8 ∧ 12 < gN G := ⟨by rw [hG.1]; rfl, by rw [hG.2]; decide⟩
theorem nc_13 {G : xG} (hG : xC1 G) : gS G 13 = .inl 8 ∧ 13 < gN G := ⟨by rw [hG.1]; rfl, by rw [hG.2]; decide⟩
theorem nc_14 {G : xG} (hG : xC1 G) : gS G 14 = .inl 8 ∧ 14 < gN G := ⟨by rw [hG.1]; rfl, by rw [hG.2]; decide⟩
theorem nc_15 {G : xG} (hG : xC1 G) : gS G 15 = .inr (.inl (4, [none, some 16, some 17])) ∧ 15 < gN G := ⟨by rw [hG.1]; rfl, by rw [hG.2]; decide⟩
theorem nc_16 {G : xG} (hG : xC1 G) : gS G 16 = .inl 50 ∧ 16 < gN G := ⟨by rw [hG.1]; rfl, by rw [hG.2]; decide⟩
theorem nc_17 {G : xG} (hG : xC1 G) : gS G 17 = .inl 50 ∧ 17 < gN G := ⟨by rw [hG.1]; rfl, by rw [hG.2]; decide⟩
theorem nc_18 {G : xG} (hG : xC1 G) : gS G 18 = .inr (.inl (4, [none, some 19, some 20])) ∧ 18 < gN G := ⟨by rw [hG.1]; rfl, by rw [hG.2]; decide⟩
theorem nc_19 {G : xG} (hG : xC1 G) : gS G 19 = .inl 50 ∧ 19 < gN G := ⟨by rw [hG.1]; rfl, by rw [hG.2]; decide⟩
theorem nc_20 {G : xG} (hG : xC1 G) : gS G 20 = .inl 50 ∧ 20 < gN G := ⟨by rw [hG.1]; rfl, by rw [hG.2]; decide⟩
theorem nc_21 {G : xG} (hG : xC1 G) : gS G 21 = .inr (.inl (3, [none, none, some 22, some 23, some 24, some 25, some 26])) ∧ 21 < gN G := ⟨by rw [hG.1]; rfl, by rw [hG.2]; decide⟩
theorem nc_22 {G : xG} (hG : xC1 G) : gS G 22 = .inl 7 ∧ 22 < gN G := ⟨by rw [hG.1]; rfl, by rw [hG.2]; decide⟩
theorem nc_23 {G : xG} (hG : xC1 G) : gS G 23 = .inl 7 ∧ 23 < gN G := ⟨by rw [hG.1]; rfl, by rw [hG.2]; decide⟩
theorem nc_24 {G : xG} (hG : xC1 G) : gS G 24 = .inl 7 ∧ 24 < gN G := ⟨by rw [hG.1]; rfl, by rw [hG.2]; decide⟩
theorem nc_25 {G : xG} (hG : xC1 G) : gS G 25 = .inl 7 ∧ 25 < gN G := ⟨by rw [hG.1]; rfl, by rw [hG.2]; decide⟩
theorem nc_26 {G : xG} (hG : xC1 G) : gS G 26 = .inl 7 ∧ 26 < gN G := ⟨by rw [hG.1]; rfl, by rw [hG.2]; decide⟩
theorem nc_27 {G : xG} (hG : xC1 G) : gS G 27 = .inr (.inl (3, [none, none, some 28, some 29, some 30, some 31, some 32])) ∧ 27 < gN G := ⟨by rw [hG.1]; rfl, by rw [hG.2]; decide⟩
theorem nc_28 {G : xG} (hG : xC1 G) : gS G 28 = .inl 7 ∧ 28 < gN G := ⟨by rw [hG.1]; rfl, by rw [hG.2]; decide⟩
theorem nc_29 {G : xG} (hG : xC1 G) : gS G 29 = .inl 7 ∧ 29 < gN G := ⟨by rw [hG.1]; rfl, by rw [hG.2]; decide⟩
theorem nc_30 {G : xG} (hG : xC1 G) : gS G 30 = .inl 7 ∧ 30 < gN G := ⟨by rw [hG.1]; rfl, by rw [hG.2]; decide⟩
theorem nc_31 {G : xG} (hG : xC1 G) : gS G 31 = .inl 7 ∧ 31 < gN G := ⟨by rw [hG.1]; rfl, by rw [hG.2]; decide⟩
theorem nc_32 {G : xG} (hG : xC1 G) : gS G 32 = .inl 7 ∧ 32 < gN G := ⟨by rw [hG.1]; rfl, by rw [hG.2]; decide⟩
theorem nc_33 {G : xG} (hG : xC1 G) : gS G 33 = .inr (.inl (3, [none, none, some 34, some 35, some 36, some 37, some 38])) ∧ 33 < gN G := ⟨by rw [hG.1]; rfl, by rw [hG.2]; decide⟩
theorem nc_34 {G : xG} (hG : xC1 G) : gS G 34 = .inl 7 ∧ 34 < gN G := ⟨by rw [hG.1]; rfl, by rw [hG.2]; decide⟩
theorem nc_35 {G : xG} (hG : xC1 G) : gS G 35 = .inl 7 ∧ 35 < gN G := ⟨by rw [hG.1]; rfl, by rw [hG.2]; decide⟩
theorem nc_36 {G : xG} (hG : xC1 G) : gS G 36 = .inl 7 ∧ 36 < gN G := ⟨by rw [hG.1]; rfl, by rw [hG.2]; decide⟩
theorem nc_37 {G : xG} (hG : xC1 G) : gS G 37 = .inl 7 ∧ 37 < gN G := ⟨by rw [hG.1]; rfl, by rw [hG.2]; decide⟩
theorem nc_38 {G : xG} (hG : xC1 G) : gS G 38 = .inl 7 ∧ 38 < gN G := ⟨by rw [hG.1]; rfl, by rw [hG.2]; decide⟩
theorem nc_39 {G : xG} (hG : xC1 G) : gS G 39 = .inr (.inl (2, [none, none, none, some 40, some 41])) ∧ 39 < gN G := ⟨by rw [hG.1]; rfl, by rw [hG.2]; decide⟩
theorem nc_40 {G : xG} (hG : xC1 G) : gS G 40 = .inl 50 ∧ 40 < gN G := ⟨by rw [hG.1]; rfl, by rw [hG.2]; decide⟩
theorem nc_41 {G : xG} (hG : xC1 G) : gS G 41 = .inl 20 ∧ 41 < gN G := ⟨by rw [hG.1]; rfl, by rw [hG.2]; decide⟩
theorem nc_42 {G : xG} (hG : xC1 G) : gS G 42 = .inr (.inl (2, [none, none, none, some 43, some 44])) ∧ 42 < gN G := ⟨by rw [hG.1]; rfl, by rw [hG.2]; decide⟩
theorem nc_43 {G : xG} (hG : xC1 G) : gS G 43 = .inl 50 ∧ 43 < gN G := ⟨by rw [hG.1]; rfl, by rw [hG.2]; decide⟩
theorem nc_44 {G : xG} (hG : xC1 G) : gS G 44 = .inl 20 ∧ 44 < gN G := ⟨by rw [hG.1]; rfl, by rw [hG.2]; decide⟩
theorem nc_45 {G : xG} (hG : xC1 G) : gS G 45 = .inr (.inl (1, [none, none, some 46, some 47, some 48])) ∧ 45 < gN G := ⟨by rw [hG.1]; rfl, by rw [hG.2]; decide⟩
theorem nc_46 {G : xG} (hG : xC1 G) : gS G 46 = .inl 8 ∧ 46 < gN G := ⟨by rw [hG.1]; rfl, by rw [hG.2]; decide⟩
theorem nc_47 {G : xG} (hG : xC1 G) : gS G 47 = .inl 8 ∧ 47 < gN G := ⟨by rw [hG.1]; rfl, by rw [hG.2]; decide⟩
theorem nc_48 {G : xG} (hG : xC1 G) : gS G 48 = .inl 8 ∧ 48 < gN G := ⟨by rw [hG.1]; rfl, by rw [hG.2]; decide⟩
theorem nc_49 {G : xG} (hG : xC1 G) : gS G 49 = .inr (.inl (5, [some 50, none, none, none, some 51])) ∧ 49 < gN G := ⟨by rw [hG.1]; rfl, by rw [hG.2]; decide⟩
theorem nc_50 {G : xG} (hG : xC1 G) : gS G 50 = .inl 50 ∧ 50 < gN G := ⟨by rw [hG.1]; rfl, by rw [hG.2]; decide⟩
theorem nc_51 {G : xG} (hG : xC1 G) : gS G 51 = .inr (.inl (4, [none, some 52, some 53])) ∧ 51 < gN G := ⟨by rw [hG.1]; rfl, by rw [hG.2]; decide⟩
theorem nc_52 {G : xG} (hG : xC1 G) : gS G 52 = .inl 50 ∧ 52 < gN G := ⟨by rw [hG.1]; rfl, by rw [hG.2]; decide⟩
theorem nc_53 {G : xG} (hG : xC1 G) : gS G 53 = .inl 50 ∧ 53 < gN G := ⟨by rw [hG.1]; rfl, by rw [hG.2]; decide⟩
theorem nc_54 {G : xG} (hG : xC1 G) : gS G 54 = .inr (.inl (7, [none, some 55, none, none, none])) ∧ 54 < gN G := ⟨by rw [hG.1]; rfl, by rw [hG.2]; decide⟩
theorem nc_55 {G : xG} (hG : xC1 G) : gS G 55 = .inl 40 ∧ 55 < gN G := ⟨by rw [hG.1]; rfl, by rw [hG.2]; decide⟩
theorem nc_56 {G : xG} (hG : xC1 G) : gS G 56 = .inr (.inr [57, 59, 61, 63]) ∧ 56 < gN G := ⟨by rw [hG.1]; rfl, by rw [hG.2]; decide⟩
theorem nc_57 {G : xG} (hG : xC1 G) : gS G 57 = .inr (.inl (6, [none, none, some 58])) ∧ 57 < gN G := ⟨by rw [hG.1]; rfl, by rw [hG.2]; decide⟩
theorem nc_58 {G : xG} (hG : xC1 G) : gS G 58 = .inl 40 ∧ 58 < gN G := ⟨by rw [hG.1]; rfl, by rw [hG.2]; decide⟩
theorem nc_59 {G : xG} (hG : xC1 G) : gS G 59 = .inr (.inl (6, [none, none, some 60])) ∧ 59 < gN G := ⟨by rw [hG.1]; rfl, by rw [hG.2]; decide⟩
theorem nc_60 {G : xG} (hG : xC1 G) : gS G 60 = .inl 40 ∧ 60 < gN G := ⟨by rw [hG.1]; rfl, by rw [hG.2]; decide⟩
theorem nc_61 {G : xG} (hG : xC1 G) : gS G 61 = .inr (.inl (6, [none, none, some 62])) ∧ 61 < gN G := ⟨by rw [hG.1]; rfl, by rw [hG.2]; decide⟩
theorem nc_62 {G : xG} (hG : xC1 G) : gS G 62 = .inl 40 ∧ 62 < gN G := ⟨by rw [hG.1]; rfl, by rw [hG.2]; decide⟩
theorem nc_63 {G : xG} (hG : xC1 G) : gS G 63 = .inr (.inl (6, [none, none, some 64])) ∧ 63 < gN G := ⟨by rw [hG.1]; rfl, by rw [hG.2]; decide⟩
theorem nc_64 {G : xG} (hG : xC1 G) : gS G 64 = .inl 40 ∧ 64 < gN G := ⟨by rw [hG.1]; rfl, by rw [hG.2]; decide⟩
theorem nc_65 {G : xG} (hG : xC1 G) : gS G 65 = .inl 6 ∧ 65 < gN G := ⟨by rw [hG.1]; rfl, by rw [hG.2]; decide⟩
def mShL : List xSh := [.inr (.inl (9, [some 1, some 2, some 3, none, some 4, some 5, some 6, none, none, none, none, some 7, none, some 8, some 9, some 10, none, none, none, none, some 11, some 12, some 13, some 14])), .inl 242, .inl 242, .inl 242, .inl 6, .inl 8000, .inr (.inr [1010, 1011]), .inl 60, .inl 4, .inl 60, .inl 40, .inl 4, .inl 4, .inl 160, .inl 40]
def mSh : Nat → xSh := fun k => mShL.getD k (.inl 0)
abbrev xM1 (G : xG) : Prop := gS G = mSh ∧ gN G = 15
theorem nm_0 {G : xG} (hG : xM1 G) : gS G 0 = .inr (.inl (9, [some 1, some 2, some 3, none, some 4, some 5, some 6, none, none, none, none, some 7, none, some 8, some 9, some 10, none, none, none, none, some 11, some 12, some 13, some 14])) ∧ 0 < gN G := ⟨by rw [hG.1]; rfl, by rw [hG.2]; decide⟩
theorem nm_1 {G : xG} (hG : xM1 G) : gS G 1 = .inl 242 ∧ 1 < gN G := ⟨by rw [hG.1]; rfl, by rw [hG.2]; decide⟩
theorem nm_2 {G : xG} (hG : xM1 G) : gS G 2 = .inl 242 ∧ 2 < gN G := ⟨by rw [hG.1]; rfl, by rw [hG.2]; decide⟩
theorem nm_3 {G : xG} (hG : xM1 G) : gS G 3 = .inl 242 ∧ 3 < gN G := ⟨by rw [hG.1]; rfl, by rw [hG.2]; decide⟩
theorem nm_4 {G : xG} (hG : xM1 G) : gS G 4 = .inl 6 ∧ 4 < gN G := ⟨by rw [hG.1]; rfl, by rw [hG.2]; decide⟩
theorem nm_5 {G : xG} (hG : xM1 G) : gS G 5 = .inl 8000 ∧ 5 < gN G := ⟨by rw [hG.1]; rfl, by rw [hG.2]; decide⟩
theorem nm_6 {G : xG} (hG : xM1 G) : gS G 6 = .inr (.inr [1010, 1011]) ∧ 6 < gN G := ⟨by rw [hG.1]; rfl, by rw [hG.2]; decide⟩
theorem nm_7 {G : xG} (hG : xM1 G) : gS G 7 = .inl 60 ∧ 7 < gN G := ⟨by rw [hG.1]; rfl, by rw [hG.2]; decide⟩
theorem nm_8 {G : xG} (hG : xM1 G) : gS G 8 = .inl 4 ∧ 8 < gN G := ⟨by rw [hG.1]; rfl, by rw [hG.2]; decide⟩
theorem nm_9 {G : xG} (hG : xM1 G) : gS G 9 = .inl 60 ∧ 9 < gN G := ⟨by rw [hG.1]; rfl, by rw [hG.2]; decide⟩
theorem nm_10 {G : xG} (hG : xM1 G) : gS G 10 = .inl 40 ∧ 10 < gN G := ⟨by rw [hG.1]; rfl, by rw [hG.2]; decide⟩
theorem nm_11 {G : xG} (hG : xM1 G) : gS G 11 = .inl 4 ∧ 11 < gN G := ⟨by rw [hG.1]; rfl, by rw [hG.2]; decide⟩
theorem nm_12 {G : xG} (hG : xM1 G) : gS G 12 = .inl 4 ∧ 12 < gN G := ⟨by rw [hG.1]; rfl, by rw [hG.2]; decide⟩
theorem nm_13 {G : xG} (hG : xM1 G) : gS G 13 = .inl 160 ∧ 13 < gN G := ⟨by rw [hG.1]; rfl, by rw [hG.2]; decide⟩
theorem nm_14 {G : xG} (hG : xM1 G) : gS G 14 = .inl 40 ∧ 14 < gN G := ⟨by rw [hG.1]; rfl, by rw [hG.2]; decide⟩
abbrev xA1 (_ : xG) : Prop := True
theorem sX0_0 {G : xG} (hG : xC1 G) {k : Nat} (h : k ∈ lBay) : gS G k = .inr (.inl (0, [none, none, none, none, some (k + 1), some (k + 2), some (k + 3), some (k + 4), some (k + 7)])) ∧ k < gN G := by
  have h2 : k = 1 ∨ k = 11 := by simpa [lBay] using h
  rcases h2 with rfl | rfl <;> exact ⟨by rw [hG.1]; rfl, by rw [hG.2]; decide⟩
theorem sX0_1 {G : xG} (hG : xC1 G) {k : Nat} (h : k ∈ lBay) : gS G (k + 1) = .inl 8 ∧ (k + 1) < gN G := by
  have h2 : k = 1 ∨ k = 11 := by simpa [lBay] using h
  rcases h2 with rfl | rfl <;> exact ⟨by rw [hG.1]; rfl, by rw [hG.2]; decide⟩
theorem sX0_2 {G : xG} (hG : xC1 G) {k : Nat} (h : k ∈ lBay) : gS G (k + 2) = .inl 8 ∧ (k + 2) < gN G := by
  have h2 : k = 1 ∨ k = 11 := by simpa [lBay] using h
  rcases h2 with rfl | rfl <;> exact ⟨by rw [hG.1]; rfl, by rw [hG.2]; decide⟩
theorem sX0_3 {G : xG} (hG : xC1 G) {k : Nat} (h : k ∈ lBay) : gS G (k + 3) = .inl 8 ∧ (k + 3) < gN G := by
  have h2 : k = 1 ∨ k = 11 := by simpa [lBay] using h
  rcases h2 with rfl | rfl <;> exact ⟨by rw [hG.1]; rfl, by rw [hG.2]; decide⟩
theorem sX3_0 {G : xG} (hG : xC1 G) {k : Nat} (h : k ∈ lFleet) : gS G k = .inr (.inl (3, [none, none, some (k + 1), some (k + 2), some (k + 3), some (k + 4), some (k + 5)])) ∧ k < gN G := by
  have h2 : k = 21 ∨ k = 27 ∨ k = 33 := by simpa [lFleet] using h
  rcases h2 with rfl | rfl | rfl <;> exact ⟨by rw [hG.1]; rfl, by rw [hG.2]; decide⟩
theorem sX3_1 {G : xG} (hG : xC1 G) {k : Nat} (h : k ∈ lFleet) : gS G (k + 1) = .inl 7 ∧ (k + 1) < gN G := by
  have h2 : k = 21 ∨ k = 27 ∨ k = 33 := by simpa [lFleet] using h
  rcases h2 with rfl | rfl | rfl <;> exact ⟨by rw [hG.1]; rfl, by rw [hG.2]; decide⟩
theorem sX3_2 {G : xG} (hG : xC1 G) {k : Nat} (h : k ∈ lFleet) : gS G (k + 2) = .inl 7 ∧ (k + 2) < gN G := by
  have h2 : k = 21 ∨ k = 27 ∨ k = 33 := by simpa [lFleet] using h
  rcases h2 with rfl | rfl | rfl <;> exact ⟨by rw [hG.1]; rfl, by rw [hG.2]; decide⟩
theorem sX3_3 {G : xG} (hG : xC1 G) {k : Nat} (h : k ∈ lFleet) : gS G (k + 3) = .inl 7 ∧ (k + 3) < gN G := by
  have h2 : k = 21 ∨ k = 27 ∨ k = 33 := by simpa [lFleet] using h
  rcases h2 with rfl | rfl | rfl <;> exact ⟨by rw [hG.1]; rfl, by rw [hG.2]; decide⟩
theorem sX3_4 {G : xG} (hG : xC1 G) {k : Nat} (h : k ∈ lFleet) : gS G (k + 4) = .inl 7 ∧ (k + 4) < gN G := by
  have h2 : k = 21 ∨ k = 27 ∨ k = 33 := by simpa [lFleet] using h
  rcases h2 with rfl | rfl | rfl <;> exact ⟨by rw [hG.1]; rfl, by rw [hG.2]; decide⟩
theorem sX3_5 {G : xG} (hG : xC1 G) {k : Nat} (h : k ∈ lFleet) : gS G (k + 5) = .inl 7 ∧ (k + 5) < gN G := by
  have h2 : k = 21 ∨ k = 27 ∨ k = 33 := by simpa [lFleet] using h
  rcases h2 with rfl | rfl | rfl <;> exact ⟨by rw [hG.1]; rfl, by rw [hG.2]; decide⟩
theorem sX2_0 {G : xG} (hG : xC1 G) {k : Nat} (h : k ∈ lDesk) : gS G k = .inr (.inl (2, [none, none, none, some (k + 1), some (k + 2)])) ∧ k < gN G := by
  have h2 : k = 39 ∨ k = 42 := by simpa [lDesk] using h
  rcases h2 with rfl | rfl <;> exact ⟨by rw [hG.1]; rfl, by rw [hG.2]; decide⟩
theorem sX2_1 {G : xG} (hG : xC1 G) {k : Nat} (h : k ∈ lDesk) : gS G (k + 1) = .inl 50 ∧ (k + 1) < gN G := by
  have h2 : k = 39 ∨ k = 42 := by simpa [lDesk] using h
  rcases h2 with rfl | rfl <;> exact ⟨by rw [hG.1]; rfl, by rw [hG.2]; decide⟩
theorem sX2_2 {G : xG} (hG : xC1 G) {k : Nat} (h : k ∈ lDesk) : gS G (k + 2) = .inl 20 ∧ (k + 2) < gN G := by
  have h2 : k = 39 ∨ k = 42 := by simpa [lDesk] using h
  rcases h2 with rfl | rfl <;> exact ⟨by rw [hG.1]; rfl, by rw [hG.2]; decide⟩
theorem sX4_0 {G : xG} (hG : xC1 G) {k : Nat} (h : k ∈ lLaw) : gS G k = .inr (.inl (4, [none, some (k + 1), some (k + 2)])) ∧ k < gN G := by
  have h2 : k = 5 ∨ k = 8 ∨ k = 15 ∨ k = 18 ∨ k = 51 := by simpa [lLaw] using h
  rcases h2 with rfl | rfl | rfl | rfl | rfl <;> exact ⟨by rw [hG.1]; rfl, by rw [hG.2]; decide⟩
theorem sX4_1 {G : xG} (hG : xC1 G) {k : Nat} (h : k ∈ lLaw) : gS G (k + 1) = .inl 50 ∧ (k + 1) < gN G := by
  have h2 : k = 5 ∨ k = 8 ∨ k = 15 ∨ k = 18 ∨ k = 51 := by simpa [lLaw] using h
  rcases h2 with rfl | rfl | rfl | rfl | rfl <;> exact ⟨by rw [hG.1]; rfl, by rw [hG.2]; decide⟩
theorem sX4_2 {G : xG} (hG : xC1 G) {k : Nat} (h : k ∈ lLaw) : gS G (k + 2) = .inl 50 ∧ (k + 2) < gN G := by
  have h2 : k = 5 ∨ k = 8 ∨ k = 15 ∨ k = 18 ∨ k = 51 := by simpa [lLaw] using h
  rcases h2 with rfl | rfl | rfl | rfl | rfl <;> exact ⟨by rw [hG.1]; rfl, by rw [hG.2]; decide⟩
theorem sX6_0 {G : xG} (hG : xC1 G) {k : Nat} (h : k ∈ lSheet) : gS G k = .inr (.inl (6, [none, none, some (k + 1)])) ∧ k < gN G := by
  have h2 : k = 57 ∨ k = 59 ∨ k = 61 ∨ k = 63 := by simpa [lSheet] using h
  rcases h2 with rfl | rfl | rfl | rfl <;> exact ⟨by rw [hG.1]; rfl, by rw [hG.2]; decide⟩
theorem sX6_1 {G : xG} (hG : xC1 G) {k : Nat} (h : k ∈ lSheet) : gS G (k + 1) = .inl 40 ∧ (k + 1) < gN G := by
  have h2 : k = 57 ∨ k = 59 ∨ k = 61 ∨ k = 63 := by simpa [lSheet] using h
  rcases h2 with rfl | rfl | rfl | rfl <;> exact ⟨by rw [hG.1]; rfl, by rw [hG.2]; decide⟩
theorem law4 {k : Nat} (h : k ∈ lBay) : k + 4 ∈ lLaw := by
  have h2 : k = 1 ∨ k = 11 := by simpa [lBay] using h
  rcases h2 with rfl | rfl <;> decide
theorem law7 {k : Nat} (h : k ∈ lBay) : k + 7 ∈ lLaw := by
  have h2 : k = 1 ∨ k = 11 := by simpa [lBay] using h
  rcases h2 with rfl | rfl <;> decide
theorem xin_cases {i : Int32} {n : Nat} (h : xin i n) : i.toNatClampNeg < n := by
  obtain ⟨h1, h2⟩ := h
  show i.toInt.toNat < n
  omega
theorem sheet_at {i : Int32} (h : xin i 4) : [57, 59, 61, 63][i.toNatClampNeg]? = some (57 + 2 * i.toNatClampNeg) := by
  have h2 := xin_cases h
  generalize i.toNatClampNeg = j at h2
  match j, h2 with
  | 0, _ => rfl
  | 1, _ => rfl
  | 2, _ => rfl
  | 3, _ => rfl
theorem sheet_in {i : Int32} (h : xin i 4) : 57 + 2 * i.toNatClampNeg ∈ lSheet := by
  have h2 := xin_cases h
  generalize i.toNatClampNeg = j at h2
  match j, h2 with
  | 0, _ => decide
  | 1, _ => decide
  | 2, _ => decide
  | 3, _ => decide
theorem named_at {i : Int32} (h : xin i 2) : [1010, 1011][i.toNatClampNeg]? = some (1010 + i.toNatClampNeg) := by
  have h2 := xin_cases h
  generalize i.toNatClampNeg = j at h2
  match j, h2 with
  | 0, _ => rfl
  | 1, _ => rfl
