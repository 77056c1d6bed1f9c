noncomputable def lp_X0_takeFrom_92 (F : Nat) (h : Nat) (g : Nat) : Nat → Int32 → Mem → Option (Unit × Mem) := fun N => Nat.rec (motive := fun _ => Int32 → Mem → Option (Unit × Mem)) (fun _ _ => none) (fun _ ih x2 σ =>
  if (5 : Int32) ≤ x2 then (
    some ((), σ)
  ) else (
    wt_chk x2 5 <|
    wt_lt (upA σ (h + 5 + Int32.toNatClampNeg x2) (va_cpy (σ (g + 5 + Int32.toNatClampNeg x2)) (σ (h + 5 + Int32.toNatClampNeg x2)) 0 0 24)) fun s2 =>
    wt_lt (upA s2 (h + 11 + Int32.toNatClampNeg x2) (va_cpy (s2 (g + 11 + Int32.toNatClampNeg x2)) (s2 (h + 11 + Int32.toNatClampNeg x2)) 0 0 8)) fun s3 =>
    ih (x2 + (1 : Int32)) s3
  )
  ) N
theorem lp_X0_takeFrom_92_s {F N : Nat} {h : Nat} {g : Nat} {x2 : Int32} {σ : Mem} : lp_X0_takeFrom_92 F h g (N + 1) x2 σ = (
  if (5 : Int32) ≤ x2 then (
    some ((), σ)
  ) else (
    wt_chk x2 5 <|
    wt_lt (upA σ (h + 5 + Int32.toNatClampNeg x2) (va_cpy (σ (g + 5 + Int32.toNatClampNeg x2)) (σ (h + 5 + Int32.toNatClampNeg x2)) 0 0 24)) fun s2 =>
    wt_lt (upA s2 (h + 11 + Int32.toNatClampNeg x2) (va_cpy (s2 (g + 11 + Int32.toNatClampNeg x2)) (s2 (h + 11 + Int32.toNatClampNeg x2)) 0 0 8)) fun s3 =>
    (lp_X0_takeFrom_92 F h g N) (x2 + (1 : Int32)) s3
  )
  ) := rfl
noncomputable def f_X0_takeFrom (F : Nat) (h : Nat) (g : Nat) (σ : Mem) : Option (Unit × Mem) :=
  wt_lt (up2 σ h 0 (σ g 0)) fun s4 =>
  wt_lt (up2 s4 h 2 (s4 g 2)) fun s5 =>
  wt_lt (up2 s5 h 8 (s5 g 8)) fun s6 =>
  wt_lt (up2 s6 h 9 (s6 g 9)) fun s7 =>
  wt_lt (upA s7 (h + 1) (va_cpy (s7 (g + 1)) (s7 (h + 1)) 0 0 6)) fun s8 =>
  wt_lt (upA s8 (h + 2) (va_cpy (s8 (g + 2)) (s8 (h + 2)) 0 0 5)) fun s9 =>
  wt_lt (upA s9 (h + 3) (va_cpy (s9 (g + 3)) (s9 (h + 3)) 0 0 5)) fun s10 =>
  wt_lt (upA s10 (h + 16) (va_cpy (s10 (g + 16)) (s10 (h + 16)) 0 0 8)) fun s11 =>
  lp_X0_takeFrom_92 F h g F (0 : Int32) s11
theorem f_X0_takeFrom_e {F : Nat} {h : Nat} {g : Nat} {σ : Mem} : f_X0_takeFrom F h g σ = (
  wt_lt (up2 σ h 0 (σ g 0)) fun s4 =>
  wt_lt (up2 s4 h 2 (s4 g 2)) fun s5 =>
  wt_lt (up2 s5 h 8 (s5 g 8)) fun s6 =>
  wt_lt (up2 s6 h 9 (s6 g 9)) fun s7 =>
  wt_lt (upA s7 (h + 1) (va_cpy (s7 (g + 1)) (s7 (h + 1)) 0 0 6)) fun s8 =>
  wt_lt (upA s8 (h + 2) (va_cpy (s8 (g + 2)) (s8 (h + 2)) 0 0 5)) fun s9 =>
  wt_lt (upA s9 (h + 3) (va_cpy (s9 (g + 3)) (s9 (h + 3)) 0 0 5)) fun s10 =>
  wt_lt (upA s10 (h + 16) (va_cpy (s10 (g + 16)) (s10 (h + 16)) 0 0 8)) fun s11 =>
  lp_X0_takeFrom_92 F h g F (0 : Int32) s11
  ) := rfl
noncomputable def j_X0_isView_14 (F : Nat) (σ : Mem) : Option (Int32 × Mem) :=
  some ((0 : Int32), σ)
theorem j_X0_isView_14_e {F : Nat} {σ : Mem} : j_X0_isView_14 F σ = (
  some ((0 : Int32), σ)
  ) := rfl
noncomputable def f_X0_isView (F : Nat) (x0 : Int32) (σ : Mem) : Option (Int32 × Mem) :=
  if x0 < 0 then (
    j_X0_isView_14 F σ
  ) else (
    if (8 : Int32) ≤ x0 then (
      j_X0_isView_14 F σ
    ) else (
      some ((1 : Int32), σ)
    )
  )
theorem f_X0_isView_e {F : Nat} {x0 : Int32} {σ : Mem} : f_X0_isView F x0 σ = (
  if x0 < 0 then (
    j_X0_isView_14 F σ
  ) else (
    if (8 : Int32) ≤ x0 then (
      j_X0_isView_14 F σ
    ) else (
      some ((1 : Int32), σ)
    )
  )
  ) := rfl
noncomputable def j_X0_isHour_14 (F : Nat) (σ : Mem) : Option (Int32 × Mem) :=
  some ((0 : Int32), σ)
theorem j_X0_isHour_14_e {F : Nat} {σ : Mem} : j_X0_isHour_14 F σ = (
  some ((0 : Int32), σ)
  ) := rfl
noncomputable def f_X0_isHour (F : Nat) (x0 : Int32) (σ : Mem) : Option (Int32 × Mem) :=
  if x0 < 0 then (
    j_X0_isHour_14 F σ
  ) else (
    if (24 : Int32) ≤ x0 then (
      j_X0_isHour_14 F σ
    ) else (
      some ((1 : Int32), σ)
    )
  )
theorem f_X0_isHour_e {F : Nat} {x0 : Int32} {σ : Mem} : f_X0_isHour F x0 σ = (
  if x0 < 0 then (
    j_X0_isHour_14 F σ
  ) else (
    if (24 : Int32) ≤ x0 then (
      j_X0_isHour_14 F σ
    ) else (
      some ((1 : Int32), σ)
    )
  )
  ) := rfl
noncomputable def j_X0_isPane_22 (F : Nat) (σ : Mem) : Option (Int32 × Mem) :=
  some ((0 : Int32), σ)
theorem j_X0_isPane_22_e {F : Nat} {σ : Mem} : j_X0_isPane_22 F σ = (
  some ((0 : Int32), σ)
  ) := rfl
noncomputable def f_X0_isPane (F : Nat) (h : Nat) (x1 : Int32) (σ : Mem) : Option (Int32 × Mem) :=
  if x1 < 0 then (
    j_X0_isPane_22 F σ
  ) else (
    if (σ h 0) ≤ x1 then (
      j_X0_isPane_22 F σ
    ) else (
      if (6 : Int32) ≤ x1 then (
        j_X0_isPane_22 F σ
      ) else (
        some ((1 : Int32), σ)
      )
    )
  )
theorem f_X0_isPane_e {F : Nat} {h : Nat} {x1 : Int32} {σ : Mem} : f_X0_isPane F h x1 σ = (
  if x1 < 0 then (
    j_X0_isPane_22 F σ
  ) else (
    if (σ h 0) ≤ x1 then (
      j_X0_isPane_22 F σ
    ) else (
      if (6 : Int32) ≤ x1 then (
        j_X0_isPane_22 F σ
      ) else (
        some ((1 : Int32), σ)
      )
    )
  )
  ) := rfl
noncomputable def j_X0_isLooker_21 (F : Nat) (σ : Mem) : Option (Int32 × Mem) :=
  some ((0 : Int32), σ)
theorem j_X0_isLooker_21_e {F : Nat} {σ : Mem} : j_X0_isLooker_21 F σ = (
  some ((0 : Int32), σ)
  ) := rfl
noncomputable def f_X0_isLooker (F : Nat) (h : Nat) (x1 : Int32) (σ : Mem) : Option (Int32 × Mem) :=
  if x1 < 0 then (
    j_X0_isLooker_21 F σ
  ) else (
    if (σ h 2) ≤ x1 then (
      j_X0_isLooker_21 F σ
    ) else (
      if (5 : Int32) ≤ x1 then (
        j_X0_isLooker_21 F σ
      ) else (
        some ((1 : Int32), σ)
      )
    )
  )
theorem f_X0_isLooker_e {F : Nat} {h : Nat} {x1 : Int32} {σ : Mem} : f_X0_isLooker F h x1 σ = (
  if x1 < 0 then (
    j_X0_isLooker_21 F σ
  ) else (
    if (σ h 2) ≤ x1 then (
      j_X0_isLooker_21 F σ
    ) else (
      if (5 : Int32) ≤ x1 then (
        j_X0_isLooker_21 F σ
      ) else (
        some ((1 : Int32), σ)
      )
    )
  )
  ) := rfl
noncomputable def j_X0_addPane_27 (F : Nat) (σ : Mem) : Option (Int32 × Mem) :=
  some ((0 : Int32), σ)
theorem j_X0_addPane_27_e {F : Nat} {σ : Mem} : j_X0_addPane_27 F σ = (
  some ((0 : Int32), σ)
  ) := rfl
noncomputable def f_X0_addPane (F : Nat) (h : Nat) (x1 : Int32) (σ : Mem) : Option (Int32 × Mem) :=
  if x1 < 0 then (
    j_X0_addPane_27 F σ
  ) else (
    if (255 : Int32) < x1 then (
      j_X0_addPane_27 F σ
    ) else (
      if (σ h 0) < 0 then (
        j_X0_addPane_27 F σ
      ) else (
        if (σ h 0) < (6 : Int32) then (
          wt_chk (σ h 0) 6 <|
          wt_lt (up2 σ (h + 1) (Int32.toNatClampNeg (σ h 0)) x1) fun s2 =>
          wt_lt (up2 s2 h 0 ((s2 h 0) + (1 : Int32))) fun s3 =>
          some ((1 : Int32), s3)
        ) else (
          j_X0_addPane_27 F σ
        )
      )
    )
  )
theorem f_X0_addPane_e {F : Nat} {h : Nat} {x1 : Int32} {σ : Mem} : f_X0_addPane F h x1 σ = (
  if x1 < 0 then (
    j_X0_addPane_27 F σ
  ) else (
    if (255 : Int32) < x1 then (
      j_X0_addPane_27 F σ
    ) else (
      if (σ h 0) < 0 then (
        j_X0_addPane_27 F σ
      ) else (
        if (σ h 0) < (6 : Int32) then (
          wt_chk (σ h 0) 6 <|
          wt_lt (up2 σ (h + 1) (Int32.toNatClampNeg (σ h 0)) x1) fun s2 =>
          wt_lt (up2 s2 h 0 ((s2 h 0) + (1 : Int32))) fun s3 =>
          some ((1 : Int32), s3)
        ) else (
          j_X0_addPane_27 F σ
        )
      )
    )
  )
  ) := rfl
noncomputable def j_X0_addLooker_35 (F : Nat) (σ : Mem) : Option (Int32 × Mem) :=
  some ((0 : Int32), σ)
theorem j_X0_addLooker_35_e {F : Nat} {σ : Mem} : j_X0_addLooker_35 F σ = (
  some ((0 : Int32), σ)
  ) := rfl
noncomputable def lp_X0_addLooker_86 (F : Nat) (h : Nat) : Nat → Int32 → Mem → Option (Int32 × Mem) := fun N => Nat.rec (motive := fun _ => Int32 → Mem → Option (Int32 × Mem)) (fun _ _ => none) (fun _ ih x3 σ =>
  if (8 : Int32) ≤ x3 then (
    wt_lt (up2 σ h 2 ((σ h 2) + (1 : Int32))) fun s1 =>
    some ((1 : Int32), s1)
  ) else (
    wt_chk (σ h 2) 5 <|
    wt_chk x3 8 <|
    wt_lt (up2 σ (h + 11 + Int32.toNatClampNeg (σ h 2)) (Int32.toNatClampNeg x3) (0 : Int32)) fun s4 =>
    ih (x3 + (1 : Int32)) s4
  )
  ) N
theorem lp_X0_addLooker_86_s {F N : Nat} {h : Nat} {x3 : Int32} {σ : Mem} : lp_X0_addLooker_86 F h (N + 1) x3 σ = (
  if (8 : Int32) ≤ x3 then (
    wt_lt (up2 σ h 2 ((σ h 2) + (1 : Int32))) fun s1 =>
    some ((1 : Int32), s1)
  ) else (
    wt_chk (σ h 2) 5 <|
    wt_chk x3 8 <|
    wt_lt (up2 σ (h + 11 + Int32.toNatClampNeg (σ h 2)) (Int32.toNatClampNeg x3) (0 : Int32)) fun s4 =>
    (lp_X0_addLooker_86 F h N) (x3 + (1 : Int32)) s4
  )
  ) := rfl
noncomputable def lp_X0_addLooker_59 (F : Nat) (h : Nat) : Nat → Int32 → Mem → Option (Int32 × Mem) := fun N => Nat.rec (motive := fun _ => Int32 → Mem → Option (Int32 × Mem)) (fun _ _ => none) (fun _ ih x3 σ =>
  if (24 : Int32) ≤ x3 then (
    lp_X0_addLooker_86 F h F (0 : Int32) σ
  ) else (
    wt_chk (σ h 2) 5 <|
    wt_chk x3 24 <|
    wt_lt (up2 σ (h + 5 + Int32.toNatClampNeg (σ h 2)) (Int32.toNatClampNeg x3) (9 : Int32)) fun s7 =>
    ih (x3 + (1 : Int32)) s7
  )
  ) N
theorem lp_X0_addLooker_59_s {F N : Nat} {h : Nat} {x3 : Int32} {σ : Mem} : lp_X0_addLooker_59 F h (N + 1) x3 σ = (
  if (24 : Int32) ≤ x3 then (
    lp_X0_addLooker_86 F h F (0 : Int32) σ
  ) else (
    wt_chk (σ h 2) 5 <|
    wt_chk x3 24 <|
    wt_lt (up2 σ (h + 5 + Int32.toNatClampNeg (σ h 2)) (Int32.toNatClampNeg x3) (9 : Int32)) fun s7 =>
    (lp_X0_addLooker_59 F h N) (x3 + (1 : Int32)) s7
  )
  ) := rfl
noncomputable def f_X0_addLooker (F : Nat) (h : Nat) (x1 : Int32) (x2 : Int32) (σ : Mem) : Option (Int32 × Mem) :=
  if x1 < 0 then (
    j_X0_addLooker_35 F σ
  ) else (
    if (6 : Int32) ≤ x1 then (
      j_X0_addLooker_35 F σ
    ) else (
      if x2 < 0 then (
        j_X0_addLooker_35 F σ
      ) else (
        if (9 : Int32) < x2 then (
          j_X0_addLooker_35 F σ
        ) else (
          if (σ h 2) < 0 then (
            j_X0_addLooker_35 F σ
          ) else (
            if (σ h 2) < (5 : Int32) then (
              wt_chk (σ h 2) 5 <|
              wt_lt (up2 σ (h + 2) (Int32.toNatClampNeg (σ h 2)) x1) fun s9 =>
              wt_chk (s9 h 2) 5 <|
              wt_lt (up2 s9 (h + 3) (Int32.toNatClampNeg (s9 h 2)) x2) fun s11 =>
              lp_X0_addLooker_59 F h F (0 : Int32) s11
            ) else (
              j_X0_addLooker_35 F σ
            )
          )
        )
      )
    )
  )
theorem f_X0_addLooker_e {F : Nat} {h : Nat} {x1 : Int32} {x2 : Int32} {σ : Mem} : f_X0_addLooker F h x1 x2 σ = (
  if x1 < 0 then (
    j_X0_addLooker_35 F σ
  ) else (
    if (6 : Int32) ≤ x1 then (
      j_X0_addLooker_35 F σ
    ) else (
      if x2 < 0 then (
        j_X0_addLooker_35 F σ
      ) else (
        if (9 : Int32) < x2 then (
          j_X0_addLooker_35 F σ
        ) else (
          if (σ h 2) < 0 then (
            j_X0_addLooker_35 F σ
          ) else (
            if (σ h 2) < (5 : Int32) then (
              wt_chk (σ h 2) 5 <|
              wt_lt (up2 σ (h + 2) (Int32.toNatClampNeg (σ h 2)) x1) fun s9 =>
              wt_chk (s9 h 2) 5 <|
              wt_lt (up2 s9 (h + 3) (Int32.toNatClampNeg (s9 h 2)) x2) fun s11 =>
              lp_X0_addLooker_59 F h F (0 : Int32) s11
            ) else (
              j_X0_addLooker_35 F σ
            )
          )
        )
      )
    )
  )
  ) := rfl
noncomputable def j_X0_post_43 (F : Nat) (σ : Mem) : Option (Int32 × Mem) :=
  some ((0 : Int32), σ)
theorem j_X0_post_43_e {F : Nat} {σ : Mem} : j_X0_post_43 F σ = (
  some ((0 : Int32), σ)
  ) := rfl
noncomputable def lp_X0_post_48 (F : Nat) (h : Nat) (x1 : Int32) (x3 : Int32) (x4 : Int32) : Nat → Int32 → Mem → Option (Int32 × Mem) := fun N => Nat.rec (motive := fun _ => Int32 → Mem → Option (Int32 × Mem)) (fun _ _ => none) (fun _ ih x5 σ =>
  if x3 < x5 then (
    some ((1 : Int32), σ)
  ) else (
    wt_chk x1 5 <|
    wt_chk x5 24 <|
    wt_lt (up2 σ (h + 5 + Int32.toNatClampNeg x1) (Int32.toNatClampNeg x5) x4) fun s3 =>
    ih (x5 + (1 : Int32)) s3
  )
  ) N
theorem lp_X0_post_48_s {F N : Nat} {h : Nat} {x1 : Int32} {x3 : Int32} {x4 : Int32} {x5 : Int32} {σ : Mem} : lp_X0_post_48 F h x1 x3 x4 (N + 1) x5 σ = (
  if x3 < x5 then (
    some ((1 : Int32), σ)
  ) else (
    wt_chk x1 5 <|
    wt_chk x5 24 <|
    wt_lt (up2 σ (h + 5 + Int32.toNatClampNeg x1) (Int32.toNatClampNeg x5) x4) fun s3 =>
    (lp_X0_post_48 F h x1 x3 x4 N) (x5 + (1 : Int32)) s3
  )
  ) := rfl
noncomputable def j_X0_post_45 (F : Nat) (h : Nat) (x1 : Int32) (x2 : Int32) (x3 : Int32) (x4 : Int32) (σ : Mem) : Option (Int32 × Mem) :=
  lp_X0_post_48 F h x1 x3 x4 F x2 σ
theorem j_X0_post_45_e {F : Nat} {h : Nat} {x1 : Int32} {x2 : Int32} {x3 : Int32} {x4 : Int32} {σ : Mem} : j_X0_post_45 F h x1 x2 x3 x4 σ = (
  lp_X0_post_48 F h x1 x3 x4 F x2 σ
  ) := rfl
noncomputable def f_X0_post (F : Nat) (h : Nat) (x1 : Int32) (x2 : Int32) (x3 : Int32) (x4 : Int32) (σ : Mem) : Option (Int32 × Mem) :=
  wt_bnd (f_X0_isLooker F h x1 σ) fun r4 s5 =>
  if r4 = 0 then (
    j_X0_post_43 F s5
  ) else (
    wt_bnd (f_X0_isHour F x2 s5) fun r6 s7 =>
    if r6 = 0 then (
      j_X0_post_43 F s7
    ) else (
      wt_bnd (f_X0_isHour F x3 s7) fun r8 s9 =>
      if r8 = 0 then (
        j_X0_post_43 F s9
      ) else (
        if x3 < x2 then (
          j_X0_post_43 F s9
        ) else (
          if x4 = (9 : Int32) then (
            j_X0_post_45 F h x1 x2 x3 x4 s9
          ) else (
            wt_bnd (f_X0_isPane F h x4 s9) fun r10 s11 =>
            if r10 = 0 then (
              j_X0_post_43 F s11
            ) else (
              j_X0_post_45 F h x1 x2 x3 x4 s11
            )
          )
        )
      )
    )
  )
theorem f_X0_post_e {F : Nat} {h : Nat} {x1 : Int32} {x2 : Int32} {x3 : Int32} {x4 : Int32} {σ : Mem} : f_X0_post F h x1 x2 x3 x4 σ = (
  wt_bnd (f_X0_isLooker F h x1 σ) fun r4 s5 =>
  if r4 = 0 then (
    j_X0_post_43 F s5
  ) else (
    wt_bnd (f_X0_isHour F x2 s5) fun r6 s7 =>
    if r6 = 0 then (
      j_X0_post_43 F s7
    ) else (
      wt_bnd (f_X0_isHour F x3 s7) fun r8 s9 =>
      if r8 = 0 then (
        j_X0_post_43 F s9
      ) else (
        if x3 < x2 then (
          j_X0_post_43 F s9
        ) else (
          if x4 = (9 : Int32) then (
            j_X0_post_45 F h x1 x2 x3 x4 s9
          ) else (
            wt_bnd (f_X0_isPane F h x4 s9) fun r10 s11 =>
            if r10 = 0 then (
              j_X0_post_43 F s11
            ) else (
              j_X0_post_45 F h x1 x2 x3 x4 s11
            )
          )
        )
      )
    )
  )
  ) := rfl
noncomputable def j_X0_flip_15 (F : Nat) (σ : Mem) : Option (Int32 × Mem) :=
  some ((0 : Int32), σ)
theorem j_X0_flip_15_e {F : Nat} {σ : Mem} : j_X0_flip_15 F σ = (
  some ((0 : Int32), σ)
  ) := rfl
noncomputable def f_X0_flip (F : Nat) (h : Nat) (x1 : Int32) (x2 : Int32) (σ : Mem) : Option (Int32 × Mem) :=
  wt_bnd (f_X0_isPane F h x1 σ) fun r1 s2 =>
  if r1 = 0 then (
    j_X0_flip_15 F s2
  ) else (
    wt_bnd (f_X0_isView F x2 s2) fun r3 s4 =>
    if r3 = 0 then (
      j_X0_flip_15 F s4
    ) else (
      wt_chk x1 6 <|
      wt_lt (up2 s4 (h + 1) (Int32.toNatClampNeg x1) ((s4 (h + 1) (Int32.toNatClampNeg x1)) ^^^ ((1 : Int32) <<< (x2 &&& 31)))) fun s6 =>
      some ((1 : Int32), s6)
    )
  )
theorem f_X0_flip_e {F : Nat} {h : Nat} {x1 : Int32} {x2 : Int32} {σ : Mem} : f_X0_flip F h x1 x2 σ = (
  wt_bnd (f_X0_isPane F h x1 σ) fun r1 s2 =>
  if r1 = 0 then (
    j_X0_flip_15 F s2
  ) else (
    wt_bnd (f_X0_isView F x2 s2) fun r3 s4 =>
    if r3 = 0 then (
      j_X0_flip_15 F s4
    ) else (
      wt_chk x1 6 <|
      wt_lt (up2 s4 (h + 1) (Int32.toNatClampNeg x1) ((s4 (h + 1) (Int32.toNatClampNeg x1)) ^^^ ((1 : Int32) <<< (x2 &&& 31)))) fun s6 =>
      some ((1 : Int32), s6)
    )
  )
  ) := rfl
noncomputable def j_X0_price_17 (F : Nat) (σ : Mem) : Option (Int32 × Mem) :=
  some ((0 : Int32), σ)
theorem j_X0_price_17_e {F : Nat} {σ : Mem} : j_X0_price_17 F σ = (
  some ((0 : Int32), σ)
  ) := rfl
noncomputable def f_X0_price (F : Nat) (h : Nat) (x1 : Int32) (x2 : Int32) (σ : Mem) : Option (Int32 × Mem) :=
  wt_bnd (f_X0_isView F x1 σ) fun r1 s2 =>
  if r1 = 0 then (
    j_X0_price_17 F s2
  ) else (
    if x2 < 0 then (
      j_X0_price_17 F s2
    ) else (
      if x2 ≤ (9 : Int32) then (
        wt_chk x1 8 <|
        wt_lt (up2 s2 (h + 16) (Int32.toNatClampNeg x1) x2) fun s4 =>
        some ((1 : Int32), s4)
      ) else (
        j_X0_price_17 F s2
      )
    )
  )
theorem f_X0_price_e {F : Nat} {h : Nat} {x1 : Int32} {x2 : Int32} {σ : Mem} : f_X0_price F h x1 x2 σ = (
  wt_bnd (f_X0_isView F x1 σ) fun r1 s2 =>
  if r1 = 0 then (
    j_X0_price_17 F s2
  ) else (
    if x2 < 0 then (
      j_X0_price_17 F s2
    ) else (
      if x2 ≤ (9 : Int32) then (
        wt_chk x1 8 <|
        wt_lt (up2 s2 (h + 16) (Int32.toNatClampNeg x1) x2) fun s4 =>
        some ((1 : Int32), s4)
      ) else (
        j_X0_price_17 F s2
      )
    )
  )
  ) := rfl
noncomputable def j_X0_rule_9 (F : Nat) (σ : Mem) : Option (Int32 × Mem) :=
  some ((0 : Int32), σ)
theorem j_X0_rule_9_e {F : Nat} {σ : Mem} : j_X0_rule_9 F σ = (
  some ((0 : Int32), σ)
  ) := rfl
noncomputable def f_X0_rule (F : Nat) (h : Nat) (x1 : Int32) (σ : Mem) : Option (Int32 × Mem) :=
  if x1 < 0 then (
    j_X0_rule_9 F σ
  ) else (
    if x1 < (3 : Int32) then (
      wt_lt (up2 σ h 8 x1) fun s1 =>
      some ((1 : Int32), s1)
    ) else (
      j_X0_rule_9 F σ
    )
  )
theorem f_X0_rule_e {F : Nat} {h : Nat} {x1 : Int32} {σ : Mem} : f_X0_rule F h x1 σ = (
  if x1 < 0 then (
    j_X0_rule_9 F σ
  ) else (
    if x1 < (3 : Int32) then (
      wt_lt (up2 σ h 8 x1) fun s1 =>
      some ((1 : Int32), s1)
    ) else (
      j_X0_rule_9 F σ
    )
  )
  ) := rfl
noncomputable def j_X0_shownBy_30 (F : Nat) (k4 : Int32 → Int32 → Mem → Option (Int32 × Mem)) (h : Nat) (x1 : Int32) (x2 : Int32) (x3 : Int32) (σ : Mem) : Option (Int32 × Mem) :=
  k4 x2 (x3 + (1 : Int32)) σ
theorem j_X0_shownBy_30_e {F : Nat} {k4 : Int32 → Int32 → Mem → Option (Int32 × Mem)} {h : Nat} {x1 : Int32} {x2 : Int32} {x3 : Int32} {σ : Mem} : j_X0_shownBy_30 F k4 h x1 x2 x3 σ = (
  k4 x2 (x3 + (1 : Int32)) σ
  ) := rfl
noncomputable def lp_X0_shownBy_4 (F : Nat) (h : Nat) (x1 : Int32) : Nat → Int32 → Int32 → Mem → Option (Int32 × Mem) := fun N => Nat.rec (motive := fun _ => Int32 → Int32 → Mem → Option (Int32 × Mem)) (fun _ _ _ => none) (fun _ ih x2 x3 σ =>
  if (σ h 0) ≤ x3 then (
    some (x2, σ)
  ) else (
    if ((x1 >>> (x3 &&& 31)) &&& (1 : Int32)) = (1 : Int32) then (
      wt_chk x3 6 <|
      wt_lt (x2 ||| (σ (h + 1) (Int32.toNatClampNeg x3))) fun z2 =>
      j_X0_shownBy_30 F ih h x1 z2 x3 σ
    ) else (
      j_X0_shownBy_30 F ih h x1 x2 x3 σ
    )
  )
  ) N
theorem lp_X0_shownBy_4_s {F N : Nat} {h : Nat} {x1 : Int32} {x2 : Int32} {x3 : Int32} {σ : Mem} : lp_X0_shownBy_4 F h x1 (N + 1) x2 x3 σ = (
  if (σ h 0) ≤ x3 then (
    some (x2, σ)
  ) else (
    if ((x1 >>> (x3 &&& 31)) &&& (1 : Int32)) = (1 : Int32) then (
      wt_chk x3 6 <|
      wt_lt (x2 ||| (σ (h + 1) (Int32.toNatClampNeg x3))) fun z2 =>
      j_X0_shownBy_30 F (lp_X0_shownBy_4 F h x1 N) h x1 z2 x3 σ
    ) else (
      j_X0_shownBy_30 F (lp_X0_shownBy_4 F h x1 N) h x1 x2 x3 σ
    )
  )
  ) := rfl
noncomputable def f_X0_shownBy (F : Nat) (h : Nat) (x1 : Int32) (σ : Mem) : Option (Int32 × Mem) :=
  lp_X0_shownBy_4 F h x1 F (0 : Int32) (0 : Int32) σ
theorem f_X0_shownBy_e {F : Nat} {h : Nat} {x1 : Int32} {σ : Mem} : f_X0_shownBy F h x1 σ = (
  lp_X0_shownBy_4 F h x1 F (0 : Int32) (0 : Int32) σ
  ) := rfl
noncomputable def f_X0_allShown (F : Nat) (h : Nat) (σ : Mem) : Option (Int32 × Mem) :=
  wt_bnd (f_X0_shownBy F h (((1 : Int32) <<< ((σ h 0) &&& 31)) - (1 : Int32)) σ) fun r1 s2 =>
  some (r1, s2)
theorem f_X0_allShown_e {F : Nat} {h : Nat} {σ : Mem} : f_X0_allShown F h σ = (
  wt_bnd (f_X0_shownBy F h (((1 : Int32) <<< ((σ h 0) &&& 31)) - (1 : Int32)) σ) fun r1 s2 =>
  some (r1, s2)
  ) := rfl
noncomputable def j_X0_invalidsPull_16 (F : Nat) (σ : Mem) : Option (Int32 × Mem) :=
  some ((1 : Int32), σ)
theorem j_X0_invalidsPull_16_e {F : Nat} {σ : Mem} : j_X0_invalidsPull_16 F σ = (
  some ((1 : Int32), σ)
  ) := rfl
noncomputable def f_X0_invalidsPull (F : Nat) (x0 : Int32) (σ : Mem) : Option (Int32 × Mem) :=
  if x0 < (6 : Int32) then (
    j_X0_invalidsPull_16 F σ
  ) else (
    if (17 : Int32) < x0 then (
      j_X0_invalidsPull_16 F σ
    ) else (
      some ((2 : Int32), σ)
    )
  )
theorem f_X0_invalidsPull_e {F : Nat} {x0 : Int32} {σ : Mem} : f_X0_invalidsPull F x0 σ = (
  if x0 < (6 : Int32) then (
    j_X0_invalidsPull_16 F σ
  ) else (
    if (17 : Int32) < x0 then (
      j_X0_invalidsPull_16 F σ
    ) else (
      some ((2 : Int32), σ)
    )
  )
  ) := rfl
noncomputable def j_X0_pull_113 (F : Nat) (t0 : Int32) (t1 : Int32) (σ : Mem) : Option (Int32 × Mem) :=
  some ((t0 * t1), σ)
theorem j_X0_pull_113_e {F : Nat} {t0 : Int32} {t1 : Int32} {σ : Mem} : j_X0_pull_113 F t0 t1 σ = (
  some ((t0 * t1), σ)
  ) := rfl
noncomputable def f_X0_pull (F : Nat) (h : Nat) (x1 : Int32) (x2 : Int32) (σ : Mem) : Option (Int32 × Mem) :=
  wt_chk x1 5 <|
  wt_lt (σ (h + 3) (Int32.toNatClampNeg x1)) fun z2 =>
  if (σ (h + 2) (Int32.toNatClampNeg x1)) = (0 : Int32) then (
    some ((1 : Int32), σ)
  ) else
  if (σ (h + 2) (Int32.toNatClampNeg x1)) = (1 : Int32) then (
    wt_bnd (f_X0_invalidsPull F x2 σ) fun r4 s5 =>
    some (r4, s5)
  ) else
  if (σ (h + 2) (Int32.toNatClampNeg x1)) = (2 : Int32) then (
    if x2 = (z2 + (8 : Int32)) then (
      some ((5 : Int32), σ)
    ) else (
      some ((0 : Int32), σ)
    )
  ) else
  if (σ (h + 2) (Int32.toNatClampNeg x1)) = (3 : Int32) then (
    if (x2 - x2 / (2 : Int32) * (2 : Int32)) = 0 then (
      some ((1 : Int32), σ)
    ) else (
      some ((0 : Int32), σ)
    )
  ) else
  if (σ (h + 2) (Int32.toNatClampNeg x1)) = (4 : Int32) then (
    wt_bnd (f_X0_invalidsPull F x2 σ) fun r6 s7 =>
    some (((z2 / (3 : Int32)) + r6), s7)
  ) else
  if (σ (h + 2) (Int32.toNatClampNeg x1)) = (5 : Int32) then (
    wt_bnd (f_X0_invalidsPull F x2 σ) fun r8 s9 =>
    if x2 < (20 : Int32) then (
      j_X0_pull_113 F ((z2 / (3 : Int32)) + r8) (1 : Int32) s9
    ) else (
      j_X0_pull_113 F ((z2 / (3 : Int32)) + r8) (2 : Int32) s9
    )
  ) else
  (
    some ((0 : Int32), σ)
  )
theorem f_X0_pull_e {F : Nat} {h : Nat} {x1 : Int32} {x2 : Int32} {σ : Mem} : f_X0_pull F h x1 x2 σ = (
  wt_chk x1 5 <|
  wt_lt (σ (h + 3) (Int32.toNatClampNeg x1)) fun z2 =>
  if (σ (h + 2) (Int32.toNatClampNeg x1)) = (0 : Int32) then (
    some ((1 : Int32), σ)
  ) else
  if (σ (h + 2) (Int32.toNatClampNeg x1)) = (1 : Int32) then (
    wt_bnd (f_X0_invalidsPull F x2 σ) fun r4 s5 =>
    some (r4, s5)
  ) else
  if (σ (h + 2) (Int32.toNatClampNeg x1)) = (2 : Int32) then (
    if x2 = (z2 + (8 : Int32)) then (
      some ((5 : Int32), σ)
    ) else (
      some ((0 : Int32), σ)
    )
  ) else
  if (σ (h + 2) (Int32.toNatClampNeg x1)) = (3 : Int32) then (
    if (x2 - x2 / (2 : Int32) * (2 : Int32)) = 0 then (
      some ((1 : Int32), σ)
    ) else (
      some ((0 : Int32), σ)
    )
  ) else
  if (σ (h + 2) (Int32.toNatClampNeg x1)) = (4 : Int32) then (
    wt_bnd (f_X0_invalidsPull F x2 σ) fun r6 s7 =>
    some (((z2 / (3 : Int32)) + r6), s7)
  ) else
  if (σ (h + 2) (Int32.toNatClampNeg x1)) = (5 : Int32) then (
    wt_bnd (f_X0_invalidsPull F x2 σ) fun r8 s9 =>
    if x2 < (20 : Int32) then (
      j_X0_pull_113 F ((z2 / (3 : Int32)) + r8) (1 : Int32) s9
    ) else (
      j_X0_pull_113 F ((z2 / (3 : Int32)) + r8) (2 : Int32) s9
    )
  ) else
  (
    some ((0 : Int32), σ)
  )
  ) := rfl
noncomputable def f_X0_sight (F : Nat) (h : Nat) (x1 : Int32) (x2 : Int32) (x3 : Int32) (σ : Mem) : Option (Int32 × Mem) :=
  wt_chk x1 5 <|
  if (σ (h + 2) (Int32.toNatClampNeg x1)) = (2 : Int32) then (
    some (x3, σ)
  ) else (
    wt_chk x2 24 <|
    wt_lt (σ (h + 5 + Int32.toNatClampNeg x1) (Int32.toNatClampNeg x2)) fun z3 =>
    wt_bnd (f_X0_isPane F h z3 σ) fun r4 s5 =>
    if r4 = 0 then (
      some ((0 : Int32), s5)
    ) else (
      wt_chk z3 6 <|
      some ((s5 (h + 1) (Int32.toNatClampNeg z3)), s5)
    )
  )
theorem f_X0_sight_e {F : Nat} {h : Nat} {x1 : Int32} {x2 : Int32} {x3 : Int32} {σ : Mem} : f_X0_sight F h x1 x2 x3 σ = (
  wt_chk x1 5 <|
  if (σ (h + 2) (Int32.toNatClampNeg x1)) = (2 : Int32) then (
    some (x3, σ)
  ) else (
    wt_chk x2 24 <|
    wt_lt (σ (h + 5 + Int32.toNatClampNeg x1) (Int32.toNatClampNeg x2)) fun z3 =>
    wt_bnd (f_X0_isPane F h z3 σ) fun r4 s5 =>
    if r4 = 0 then (
      some ((0 : Int32), s5)
    ) else (
      wt_chk z3 6 <|
      some ((s5 (h + 1) (Int32.toNatClampNeg z3)), s5)
    )
  )
  ) := rfl
noncomputable def j_X0_gain_33 (F : Nat) (k3 : Int32 → Mem → Option (Unit × Mem)) (h : Nat) (x1 : Int32) (x2 : Int32) (x3 : Int32) (x4 : Int32) (σ : Mem) : Option (Unit × Mem) :=
  k3 (x4 + (1 : Int32)) σ
theorem j_X0_gain_33_e {F : Nat} {k3 : Int32 → Mem → Option (Unit × Mem)} {h : Nat} {x1 : Int32} {x2 : Int32} {x3 : Int32} {x4 : Int32} {σ : Mem} : j_X0_gain_33 F k3 h x1 x2 x3 x4 σ = (
  k3 (x4 + (1 : Int32)) σ
  ) := rfl
noncomputable def lp_X0_gain_3 (F : Nat) (h : Nat) (x1 : Int32) (x2 : Int32) (x3 : Int32) : Nat → Int32 → Mem → Option (Unit × Mem) := fun N => Nat.rec (motive := fun _ => Int32 → Mem → Option (Unit × Mem)) (fun _ _ => none) (fun _ ih x4 σ =>
  if (8 : Int32) ≤ x4 then (
    some ((), σ)
  ) else (
    if ((x2 >>> (x4 &&& 31)) &&& (1 : Int32)) = (1 : Int32) then (
      wt_chk x1 5 <|
      wt_chk x4 8 <|
      wt_lt (up2 σ (h + 18 + Int32.toNatClampNeg x1) (Int32.toNatClampNeg x4) ((σ (h + 18 + Int32.toNatClampNeg x1) (Int32.toNatClampNeg x4)) + x3)) fun s3 =>
      j_X0_gain_33 F ih h x1 x2 x3 x4 s3
    ) else (
      j_X0_gain_33 F ih h x1 x2 x3 x4 σ
    )
  )
  ) N
theorem lp_X0_gain_3_s {F N : Nat} {h : Nat} {x1 : Int32} {x2 : Int32} {x3 : Int32} {x4 : Int32} {σ : Mem} : lp_X0_gain_3 F h x1 x2 x3 (N + 1) x4 σ = (
  if (8 : Int32) ≤ x4 then (
    some ((), σ)
  ) else (
    if ((x2 >>> (x4 &&& 31)) &&& (1 : Int32)) = (1 : Int32) then (
      wt_chk x1 5 <|
      wt_chk x4 8 <|
      wt_lt (up2 σ (h + 18 + Int32.toNatClampNeg x1) (Int32.toNatClampNeg x4) ((σ (h + 18 + Int32.toNatClampNeg x1) (Int32.toNatClampNeg x4)) + x3)) fun s3 =>
      j_X0_gain_33 F (lp_X0_gain_3 F h x1 x2 x3 N) h x1 x2 x3 x4 s3
    ) else (
      j_X0_gain_33 F (lp_X0_gain_3 F h x1 x2 x3 N) h x1 x2 x3 x4 σ
    )
  )
  ) := rfl
noncomputable def f_X0_gain (F : Nat) (h : Nat) (x1 : Int32) (x2 : Int32) (x3 : Int32) (σ : Mem) : Option (Unit × Mem) :=
  lp_X0_gain_3 F h x1 x2 x3 F (0 : Int32) σ
theorem f_X0_gain_e {F : Nat} {h : Nat} {x1 : Int32} {x2 : Int32} {x3 : Int32} {σ : Mem} : f_X0_gain F h x1 x2 x3 σ = (
  lp_X0_gain_3 F h x1 x2 x3 F (0 : Int32) σ
  ) := rfl
noncomputable def j_X0_reckon_73 (F : Nat) (k7 : Int32 → Mem → Option (Unit × Mem)) (k40 : Int32 → Mem → Option (Unit × Mem)) (h : Nat) (x1 : Int32) (x2 : Int32) (x3 : Int32) (σ : Mem) : Option (Unit × Mem) :=
  k40 (x3 + (1 : Int32)) σ
theorem j_X0_reckon_73_e {F : Nat} {k7 : Int32 → Mem → Option (Unit × Mem)} {k40 : Int32 → Mem → Option (Unit × Mem)} {h : Nat} {x1 : Int32} {x2 : Int32} {x3 : Int32} {σ : Mem} : j_X0_reckon_73 F k7 k40 h x1 x2 x3 σ = (
  k40 (x3 + (1 : Int32)) σ
  ) := rfl
noncomputable def lp_X0_reckon_40 (F : Nat) (k7 : Int32 → Mem → Option (Unit × Mem)) (h : Nat) (x1 : Int32) (x2 : Int32) : Nat → Int32 → Mem → Option (Unit × Mem) := fun N => Nat.rec (motive := fun _ => Int32 → Mem → Option (Unit × Mem)) (fun _ _ => none) (fun _ ih x3 σ =>
  if (24 : Int32) ≤ x3 then (
    k7 (x2 + (1 : Int32)) σ
  ) else (
    wt_bnd (f_X0_pull F h x2 x3 σ) fun r1 s2 =>
    if r1 ≤ 0 then (
      j_X0_reckon_73 F k7 ih h x1 x2 x3 s2
    ) else (
      wt_bnd (f_X0_sight F h x2 x3 x1 s2) fun r3 s4 =>
      wt_bnd (f_X0_gain F h x2 r3 r1 s4) fun r5 s6 =>
      j_X0_reckon_73 F k7 ih h x1 x2 x3 s6
    )
  )
  ) N
theorem lp_X0_reckon_40_s {F N : Nat} {k7 : Int32 → Mem → Option (Unit × Mem)} {h : Nat} {x1 : Int32} {x2 : Int32} {x3 : Int32} {σ : Mem} : lp_X0_reckon_40 F k7 h x1 x2 (N + 1) x3 σ = (
  if (24 : Int32) ≤ x3 then (
    k7 (x2 + (1 : Int32)) σ
  ) else (
    wt_bnd (f_X0_pull F h x2 x3 σ) fun r1 s2 =>
    if r1 ≤ 0 then (
      j_X0_reckon_73 F k7 (lp_X0_reckon_40 F k7 h x1 x2 N) h x1 x2 x3 s2
    ) else (
      wt_bnd (f_X0_sight F h x2 x3 x1 s2) fun r3 s4 =>
      wt_bnd (f_X0_gain F h x2 r3 r1 s4) fun r5 s6 =>
      j_X0_reckon_73 F k7 (lp_X0_reckon_40 F k7 h x1 x2 N) h x1 x2 x3 s6
    )
  )
  ) := rfl
noncomputable def lp_X0_reckon_17 (F : Nat) (k7 : Int32 → Mem → Option (Unit × Mem)) (h : Nat) (x1 : Int32) (x2 : Int32) : Nat → Int32 → Mem → Option (Unit × Mem) := fun N => Nat.rec (motive := fun _ => Int32 → Mem → Option (Unit × Mem)) (fun _ _ => none) (fun _ ih x3 σ =>
  if (8 : Int32) ≤ x3 then (
    lp_X0_reckon_40 F k7 h x1 x2 F (0 : Int32) σ
  ) else (
    wt_chk x2 5 <|
    wt_chk x3 8 <|
    wt_lt (up2 σ (h + 18 + Int32.toNatClampNeg x2) (Int32.toNatClampNeg x3) (0 : Int32)) fun s9 =>
    ih (x3 + (1 : Int32)) s9
  )
  ) N
theorem lp_X0_reckon_17_s {F N : Nat} {k7 : Int32 → Mem → Option (Unit × Mem)} {h : Nat} {x1 : Int32} {x2 : Int32} {x3 : Int32} {σ : Mem} : lp_X0_reckon_17 F k7 h x1 x2 (N + 1) x3 σ = (
  if (8 : Int32) ≤ x3 then (
    lp_X0_reckon_40 F k7 h x1 x2 F (0 : Int32) σ
  ) else (
    wt_chk x2 5 <|
    wt_chk x3 8 <|
    wt_lt (up2 σ (h + 18 + Int32.toNatClampNeg x2) (Int32.toNatClampNeg x3) (0 : Int32)) fun s9 =>
    (lp_X0_reckon_17 F k7 h x1 x2 N) (x3 + (1 : Int32)) s9
  )
  ) := rfl
noncomputable def lp_X0_reckon_7 (F : Nat) (h : Nat) (x1 : Int32) : Nat → Int32 → Mem → Option (Unit × Mem) := fun N => Nat.rec (motive := fun _ => Int32 → Mem → Option (Unit × Mem)) (fun _ _ => none) (fun _ ih x2 σ =>
  if (σ h 2) ≤ x2 then (
    some ((), σ)
  ) else (
    lp_X0_reckon_17 F ih h x1 x2 F (0 : Int32) σ
  )
  ) N
theorem lp_X0_reckon_7_s {F N : Nat} {h : Nat} {x1 : Int32} {x2 : Int32} {σ : Mem} : lp_X0_reckon_7 F h x1 (N + 1) x2 σ = (
  if (σ h 2) ≤ x2 then (
    some ((), σ)
  ) else (
    lp_X0_reckon_17 F (lp_X0_reckon_7 F h x1 N) h x1 x2 F (0 : Int32) σ
  )
  ) := rfl
noncomputable def f_X0_reckon (F : Nat) (h : Nat) (σ : Mem) : Option (Unit × Mem) :=
  wt_bnd (f_X0_allShown F h σ) fun r10 s11 =>
  lp_X0_reckon_7 F h r10 F (0 : Int32) s11
theorem f_X0_reckon_e {F : Nat} {h : Nat} {σ : Mem} : f_X0_reckon F h σ = (
  wt_bnd (f_X0_allShown F h σ) fun r10 s11 =>
  lp_X0_reckon_7 F h r10 F (0 : Int32) s11
  ) := rfl
noncomputable def f_X0_behind (F : Nat) (h : Nat) (x1 : Int32) (x2 : Int32) (x3 : Int32) (σ : Mem) : Option (Int32 × Mem) :=
  wt_chk x1 5 <|
  wt_chk x2 8 <|
  some ((wt_min (99999 : Int32) ((σ (h + 11 + Int32.toNatClampNeg x1) (Int32.toNatClampNeg x2)) + (x3 * (σ (h + 18 + Int32.toNatClampNeg x1) (Int32.toNatClampNeg x2))))), σ)
theorem f_X0_behind_e {F : Nat} {h : Nat} {x1 : Int32} {x2 : Int32} {x3 : Int32} {σ : Mem} : f_X0_behind F h x1 x2 x3 σ = (
  wt_chk x1 5 <|
  wt_chk x2 8 <|
  some ((wt_min (99999 : Int32) ((σ (h + 11 + Int32.toNatClampNeg x1) (Int32.toNatClampNeg x2)) + (x3 * (σ (h + 18 + Int32.toNatClampNeg x1) (Int32.toNatClampNeg x2))))), σ)
  ) := rfl
noncomputable def j_X0_pass_23 (F : Nat) (σ : Mem) : Option (Int32 × Mem) :=
  some ((0 : Int32), σ)
theorem j_X0_pass_23_e {F : Nat} {σ : Mem} : j_X0_pass_23 F σ = (
  some ((0 : Int32), σ)
  ) := rfl
noncomputable def lp_X0_pass_41 (F : Nat) (k31 : Int32 → Mem → Option (Int32 × Mem)) (h : Nat) (x1 : Int32) (x2 : Int32) : Nat → Int32 → Mem → Option (Int32 × Mem) := fun N => Nat.rec (motive := fun _ => Int32 → Mem → Option (Int32 × Mem)) (fun _ _ => none) (fun _ ih x3 σ =>
  if (8 : Int32) ≤ x3 then (
    k31 (x2 + (1 : Int32)) σ
  ) else (
    wt_chk x2 5 <|
    wt_bnd (f_X0_behind F h x2 x3 x1 σ) fun r2 s3 =>
    wt_chk x3 8 <|
    wt_lt (up2 s3 (h + 11 + Int32.toNatClampNeg x2) (Int32.toNatClampNeg x3) r2) fun s5 =>
    ih (x3 + (1 : Int32)) s5
  )
  ) N
theorem lp_X0_pass_41_s {F N : Nat} {k31 : Int32 → Mem → Option (Int32 × Mem)} {h : Nat} {x1 : Int32} {x2 : Int32} {x3 : Int32} {σ : Mem} : lp_X0_pass_41 F k31 h x1 x2 (N + 1) x3 σ = (
  if (8 : Int32) ≤ x3 then (
    k31 (x2 + (1 : Int32)) σ
  ) else (
    wt_chk x2 5 <|
    wt_bnd (f_X0_behind F h x2 x3 x1 σ) fun r2 s3 =>
    wt_chk x3 8 <|
    wt_lt (up2 s3 (h + 11 + Int32.toNatClampNeg x2) (Int32.toNatClampNeg x3) r2) fun s5 =>
    (lp_X0_pass_41 F k31 h x1 x2 N) (x3 + (1 : Int32)) s5
  )
  ) := rfl
noncomputable def lp_X0_pass_31 (F : Nat) (h : Nat) (x1 : Int32) : Nat → Int32 → Mem → Option (Int32 × Mem) := fun N => Nat.rec (motive := fun _ => Int32 → Mem → Option (Int32 × Mem)) (fun _ _ => none) (fun _ ih x2 σ =>
  if (σ h 2) ≤ x2 then (
    wt_lt (up2 σ h 9 ((σ h 9) + x1)) fun s6 =>
    some ((1 : Int32), s6)
  ) else (
    lp_X0_pass_41 F ih h x1 x2 F (0 : Int32) σ
  )
  ) N
theorem lp_X0_pass_31_s {F N : Nat} {h : Nat} {x1 : Int32} {x2 : Int32} {σ : Mem} : lp_X0_pass_31 F h x1 (N + 1) x2 σ = (
  if (σ h 2) ≤ x2 then (
    wt_lt (up2 σ h 9 ((σ h 9) + x1)) fun s6 =>
    some ((1 : Int32), s6)
  ) else (
    lp_X0_pass_41 F (lp_X0_pass_31 F h x1 N) h x1 x2 F (0 : Int32) σ
  )
  ) := rfl
noncomputable def f_X0_pass (F : Nat) (h : Nat) (x1 : Int32) (σ : Mem) : Option (Int32 × Mem) :=
  if x1 < (1 : Int32) then (
    j_X0_pass_23 F σ
  ) else (
    if (99 : Int32) < x1 then (
      j_X0_pass_23 F σ
    ) else (
      if ((σ h 9) + x1) ≤ (9999 : Int32) then (
        wt_bnd (f_X0_reckon F h σ) fun r7 s8 =>
        lp_X0_pass_31 F h x1 F (0 : Int32) s8
      ) else (
        j_X0_pass_23 F σ
      )
    )
  )
theorem f_X0_pass_e {F : Nat} {h : Nat} {x1 : Int32} {σ : Mem} : f_X0_pass F h x1 σ = (
  if x1 < (1 : Int32) then (
    j_X0_pass_23 F σ
  ) else (
    if (99 : Int32) < x1 then (
      j_X0_pass_23 F σ
    ) else (
      if ((σ h 9) + x1) ≤ (9999 : Int32) then (
        wt_bnd (f_X0_reckon F h σ) fun r7 s8 =>
        lp_X0_pass_31 F h x1 F (0 : Int32) s8
      ) else (
        j_X0_pass_23 F σ
      )
    )
  )
  ) := rfl
noncomputable def lp_X0_tradeRosters_19 (F : Nat) (h : Nat) (x1 : Int32) (x2 : Int32) : Nat → Int32 → Mem → Option (Unit × Mem) := fun N => Nat.rec (motive := fun _ => Int32 → Mem → Option (Unit × Mem)) (fun _ _ => none) (fun _ ih x3 σ =>
  if (24 : Int32) ≤ x3 then (
    some ((), σ)
  ) else (
    wt_chk x1 5 <|
    wt_chk x3 24 <|
    wt_lt (σ (h + 5 + Int32.toNatClampNeg x1) (Int32.toNatClampNeg x3)) fun z3 =>
    wt_chk x2 5 <|
    wt_lt (up2 σ (h + 5 + Int32.toNatClampNeg x1) (Int32.toNatClampNeg x3) (σ (h + 5 + Int32.toNatClampNeg x2) (Int32.toNatClampNeg x3))) fun s5 =>
    wt_lt (up2 s5 (h + 5 + Int32.toNatClampNeg x2) (Int32.toNatClampNeg x3) z3) fun s6 =>
    ih (x3 + (1 : Int32)) s6
  )
  ) N
theorem lp_X0_tradeRosters_19_s {F N : Nat} {h : Nat} {x1 : Int32} {x2 : Int32} {x3 : Int32} {σ : Mem} : lp_X0_tradeRosters_19 F h x1 x2 (N + 1) x3 σ = (
  if (24 : Int32) ≤ x3 then (
    some ((), σ)
  ) else (
    wt_chk x1 5 <|
    wt_chk x3 24 <|
    wt_lt (σ (h + 5 + Int32.toNatClampNeg x1) (Int32.toNatClampNeg x3)) fun z3 =>
    wt_chk x2 5 <|
    wt_lt (up2 σ (h + 5 + Int32.toNatClampNeg x1) (Int32.toNatClampNeg x3) (σ (h + 5 + Int32.toNatClampNeg x2) (Int32.toNatClampNeg x3))) fun s5 =>
    wt_lt (up2 s5 (h + 5 + Int32.toNatClampNeg x2) (Int32.toNatClampNeg x3) z3) fun s6 =>
    (lp_X0_tradeRosters_19 F h x1 x2 N) (x3 + (1 : Int32)) s6
  )
  ) := rfl
noncomputable def f_X0_tradeRosters (F : Nat) (h : Nat) (x1 : Int32) (x2 : Int32) (σ : Mem) : Option (Unit × Mem) :=
  wt_bnd (f_X0_isLooker F h x1 σ) fun r7 s8 =>
  if r7 = 0 then (
    some ((), s8)
  ) else (
    wt_bnd (f_X0_isLooker F h x2 s8) fun r9 s10 =>
    if r9 = 0 then (
      some ((), s10)
    ) else (
      lp_X0_tradeRosters_19 F h x1 x2 F (0 : Int32) s10
    )
  )
theorem f_X0_tradeRosters_e {F : Nat} {h : Nat} {x1 : Int32} {x2 : Int32} {σ : Mem} : f_X0_tradeRosters F h x1 x2 σ = (
  wt_bnd (f_X0_isLooker F h x1 σ) fun r7 s8 =>
  if r7 = 0 then (
    some ((), s8)
  ) else (
    wt_bnd (f_X0_isLooker F h x2 s8) fun r9 s10 =>
    if r9 = 0 then (
      some ((), s10)
    ) else (
      lp_X0_tradeRosters_19 F h x1 x2 F (0 : Int32) s10
    )
  )
  ) := rfl
noncomputable def j_X0_shows_33 (F : Nat) (σ : Mem) : Option (Int32 × Mem) :=
  some ((0 : Int32), σ)
theorem j_X0_shows_33_e {F : Nat} {σ : Mem} : j_X0_shows_33 F σ = (
  some ((0 : Int32), σ)
  ) := rfl
noncomputable def f_X0_shows (F : Nat) (h : Nat) (x1 : Int32) (x2 : Int32) (σ : Mem) : Option (Int32 × Mem) :=
  wt_bnd (f_X0_isPane F h x1 σ) fun r1 s2 =>
  if r1 = 0 then (
    j_X0_shows_33 F s2
  ) else (
    wt_bnd (f_X0_isView F x2 s2) fun r3 s4 =>
    if r3 = 0 then (
      j_X0_shows_33 F s4
    ) else (
      wt_chk x1 6 <|
      if (((s4 (h + 1) (Int32.toNatClampNeg x1)) >>> (x2 &&& 31)) &&& (1 : Int32)) = (1 : Int32) then (
        some ((1 : Int32), s4)
      ) else (
        j_X0_shows_33 F s4
      )
    )
  )
theorem f_X0_shows_e {F : Nat} {h : Nat} {x1 : Int32} {x2 : Int32} {σ : Mem} : f_X0_shows F h x1 x2 σ = (
  wt_bnd (f_X0_isPane F h x1 σ) fun r1 s2 =>
  if r1 = 0 then (
    j_X0_shows_33 F s2
  ) else (
    wt_bnd (f_X0_isView F x2 s2) fun r3 s4 =>
    if r3 = 0 then (
      j_X0_shows_33 F s4
    ) else (
      wt_chk x1 6 <|
      if (((s4 (h + 1) (Int32.toNatClampNeg x1)) >>> (x2 &&& 31)) &&& (1 : Int32)) = (1 : Int32) then (
        some ((1 : Int32), s4)
      ) else (
        j_X0_shows_33 F s4
      )
    )
  )
  ) := rfl
noncomputable def j_X0_timesShown_24 (F : Nat) (k4 : Int32 → Int32 → Mem → Option (Int32 × Mem)) (h : Nat) (x1 : Int32) (x2 : Int32) (x3 : Int32) (σ : Mem) : Option (Int32 × Mem) :=
  k4 x2 (x3 + (1 : Int32)) σ
theorem j_X0_timesShown_24_e {F : Nat} {k4 : Int32 → Int32 → Mem → Option (Int32 × Mem)} {h : Nat} {x1 : Int32} {x2 : Int32} {x3 : Int32} {σ : Mem} : j_X0_timesShown_24 F k4 h x1 x2 x3 σ = (
  k4 x2 (x3 + (1 : Int32)) σ
  ) := rfl
noncomputable def lp_X0_timesShown_4 (F : Nat) (h : Nat) (x1 : Int32) : Nat → Int32 → Int32 → Mem → Option (Int32 × Mem) := fun N => Nat.rec (motive := fun _ => Int32 → Int32 → Mem → Option (Int32 × Mem)) (fun _ _ _ => none) (fun _ ih x2 x3 σ =>
  if (σ h 0) ≤ x3 then (
    some (x2, σ)
  ) else (
    wt_bnd (f_X0_shows F h x3 x1 σ) fun r1 s2 =>
    if r1 = 0 then (
      j_X0_timesShown_24 F ih h x1 x2 x3 s2
    ) else (
      j_X0_timesShown_24 F ih h x1 (x2 + (1 : Int32)) x3 s2
    )
  )
  ) N
theorem lp_X0_timesShown_4_s {F N : Nat} {h : Nat} {x1 : Int32} {x2 : Int32} {x3 : Int32} {σ : Mem} : lp_X0_timesShown_4 F h x1 (N + 1) x2 x3 σ = (
  if (σ h 0) ≤ x3 then (
    some (x2, σ)
  ) else (
    wt_bnd (f_X0_shows F h x3 x1 σ) fun r1 s2 =>
    if r1 = 0 then (
      j_X0_timesShown_24 F (lp_X0_timesShown_4 F h x1 N) h x1 x2 x3 s2
    ) else (
      j_X0_timesShown_24 F (lp_X0_timesShown_4 F h x1 N) h x1 (x2 + (1 : Int32)) x3 s2
    )
  )
  ) := rfl
noncomputable def f_X0_timesShown (F : Nat) (h : Nat) (x1 : Int32) (σ : Mem) : Option (Int32 × Mem) :=
  lp_X0_timesShown_4 F h x1 F (0 : Int32) (0 : Int32) σ
theorem f_X0_timesShown_e {F : Nat} {h : Nat} {x1 : Int32} {σ : Mem} : f_X0_timesShown F h x1 σ = (
  lp_X0_timesShown_4 F h x1 F (0 : Int32) (0 : Int32) σ
  ) := rfl
noncomputable def j_X0_hoursAt_38 (F : Nat) (k4 : Int32 → Int32 → Mem → Option (Int32 × Mem)) (k15 : Int32 → Int32 → Mem → Option (Int32 × Mem)) (h : Nat) (x1 : Int32) (x2 : Int32) (x3 : Int32) (x4 : Int32) (σ : Mem) : Option (Int32 × Mem) :=
  k15 x2 (x4 + (1 : Int32)) σ
theorem j_X0_hoursAt_38_e {F : Nat} {k4 : Int32 → Int32 → Mem → Option (Int32 × Mem)} {k15 : Int32 → Int32 → Mem → Option (Int32 × Mem)} {h : Nat} {x1 : Int32} {x2 : Int32} {x3 : Int32} {x4 : Int32} {σ : Mem} : j_X0_hoursAt_38 F k4 k15 h x1 x2 x3 x4 σ = (
  k15 x2 (x4 + (1 : Int32)) σ
  ) := rfl
noncomputable def lp_X0_hoursAt_15 (F : Nat) (k4 : Int32 → Int32 → Mem → Option (Int32 × Mem)) (h : Nat) (x1 : Int32) (x3 : Int32) : Nat → Int32 → Int32 → Mem → Option (Int32 × Mem) := fun N => Nat.rec (motive := fun _ => Int32 → Int32 → Mem → Option (Int32 × Mem)) (fun _ _ _ => none) (fun _ ih x2 x4 σ =>
  if (24 : Int32) ≤ x4 then (
    k4 x2 (x3 + (1 : Int32)) σ
  ) else (
    wt_chk x3 5 <|
    wt_chk x4 24 <|
    if (σ (h + 5 + Int32.toNatClampNeg x3) (Int32.toNatClampNeg x4)) = x1 then (
      j_X0_hoursAt_38 F k4 ih h x1 (x2 + (1 : Int32)) x3 x4 σ
    ) else (
      j_X0_hoursAt_38 F k4 ih h x1 x2 x3 x4 σ
    )
  )
  ) N
theorem lp_X0_hoursAt_15_s {F N : Nat} {k4 : Int32 → Int32 → Mem → Option (Int32 × Mem)} {h : Nat} {x1 : Int32} {x3 : Int32} {x2 : Int32} {x4 : Int32} {σ : Mem} : lp_X0_hoursAt_15 F k4 h x1 x3 (N + 1) x2 x4 σ = (
  if (24 : Int32) ≤ x4 then (
    k4 x2 (x3 + (1 : Int32)) σ
  ) else (
    wt_chk x3 5 <|
    wt_chk x4 24 <|
    if (σ (h + 5 + Int32.toNatClampNeg x3) (Int32.toNatClampNeg x4)) = x1 then (
      j_X0_hoursAt_38 F k4 (lp_X0_hoursAt_15 F k4 h x1 x3 N) h x1 (x2 + (1 : Int32)) x3 x4 σ
    ) else (
      j_X0_hoursAt_38 F k4 (lp_X0_hoursAt_15 F k4 h x1 x3 N) h x1 x2 x3 x4 σ
    )
  )
  ) := rfl
noncomputable def lp_X0_hoursAt_4 (F : Nat) (h : Nat) (x1 : Int32) : Nat → Int32 → Int32 → Mem → Option (Int32 × Mem) := fun N => Nat.rec (motive := fun _ => Int32 → Int32 → Mem → Option (Int32 × Mem)) (fun _ _ _ => none) (fun _ ih x2 x3 σ =>
  if (σ h 2) ≤ x3 then (
    some (x2, σ)
  ) else (
    lp_X0_hoursAt_15 F ih h x1 x3 F x2 (0 : Int32) σ
  )
  ) N
theorem lp_X0_hoursAt_4_s {F N : Nat} {h : Nat} {x1 : Int32} {x2 : Int32} {x3 : Int32} {σ : Mem} : lp_X0_hoursAt_4 F h x1 (N + 1) x2 x3 σ = (
  if (σ h 2) ≤ x3 then (
    some (x2, σ)
  ) else (
    lp_X0_hoursAt_15 F (lp_X0_hoursAt_4 F h x1 N) h x1 x3 F x2 (0 : Int32) σ
  )
  ) := rfl
noncomputable def f_X0_hoursAt (F : Nat) (h : Nat) (x1 : Int32) (σ : Mem) : Option (Int32 × Mem) :=
  lp_X0_hoursAt_4 F h x1 F (0 : Int32) (0 : Int32) σ
theorem f_X0_hoursAt_e {F : Nat} {h : Nat} {x1 : Int32} {σ : Mem} : f_X0_hoursAt F h x1 σ = (
  lp_X0_hoursAt_4 F h x1 F (0 : Int32) (0 : Int32) σ
  ) := rfl
noncomputable def j_X0_hoursOf_26 (F : Nat) (k4 : Int32 → Int32 → Mem → Option (Int32 × Mem)) (h : Nat) (x1 : Int32) (x2 : Int32) (x3 : Int32) (σ : Mem) : Option (Int32 × Mem) :=
  k4 x2 (x3 + (1 : Int32)) σ
theorem j_X0_hoursOf_26_e {F : Nat} {k4 : Int32 → Int32 → Mem → Option (Int32 × Mem)} {h : Nat} {x1 : Int32} {x2 : Int32} {x3 : Int32} {σ : Mem} : j_X0_hoursOf_26 F k4 h x1 x2 x3 σ = (
  k4 x2 (x3 + (1 : Int32)) σ
  ) := rfl
noncomputable def lp_X0_hoursOf_4 (F : Nat) (h : Nat) (x1 : Int32) : Nat → Int32 → Int32 → Mem → Option (Int32 × Mem) := fun N => Nat.rec (motive := fun _ => Int32 → Int32 → Mem → Option (Int32 × Mem)) (fun _ _ _ => none) (fun _ ih x2 x3 σ =>
  if (24 : Int32) ≤ x3 then (
    some (x2, σ)
  ) else (
    wt_chk x1 5 <|
    wt_chk x3 24 <|
    if (σ (h + 5 + Int32.toNatClampNeg x1) (Int32.toNatClampNeg x3)) = (9 : Int32) then (
      j_X0_hoursOf_26 F ih h x1 x2 x3 σ
    ) else (
      j_X0_hoursOf_26 F ih h x1 (x2 + (1 : Int32)) x3 σ
    )
  )
  ) N
theorem lp_X0_hoursOf_4_s {F N : Nat} {h : Nat} {x1 : Int32} {x2 : Int32} {x3 : Int32} {σ : Mem} : lp_X0_hoursOf_4 F h x1 (N + 1) x2 x3 σ = (
  if (24 : Int32) ≤ x3 then (
    some (x2, σ)
  ) else (
    wt_chk x1 5 <|
    wt_chk x3 24 <|
    if (σ (h + 5 + Int32.toNatClampNeg x1) (Int32.toNatClampNeg x3)) = (9 : Int32) then (
      j_X0_hoursOf_26 F (lp_X0_hoursOf_4 F h x1 N) h x1 x2 x3 σ
    ) else (
      j_X0_hoursOf_26 F (lp_X0_hoursOf_4 F h x1 N) h x1 (x2 + (1 : Int32)) x3 σ
    )
  )
  ) := rfl
noncomputable def f_X0_hoursOf (F : Nat) (h : Nat) (x1 : Int32) (σ : Mem) : Option (Int32 × Mem) :=
  lp_X0_hoursOf_4 F h x1 F (0 : Int32) (0 : Int32) σ
theorem f_X0_hoursOf_e {F : Nat} {h : Nat} {x1 : Int32} {σ : Mem} : f_X0_hoursOf F h x1 σ = (
  lp_X0_hoursOf_4 F h x1 F (0 : Int32) (0 : Int32) σ
  ) := rfl
noncomputable def lp_X0_hoursOfAll_4 (F : Nat) (h : Nat) : Nat → Int32 → Int32 → Mem → Option (Int32 × Mem) := fun N => Nat.rec (motive := fun _ => Int32 → Int32 → Mem → Option (Int32 × Mem)) (fun _ _ _ => none) (fun _ ih x1 x2 σ =>
  if (σ h 2) ≤ x2 then (
    some (x1, σ)
  ) else (
    wt_bnd (f_X0_hoursOf F h x2 σ) fun r1 s2 =>
    ih (x1 + r1) (x2 + (1 : Int32)) s2
  )
  ) N
theorem lp_X0_hoursOfAll_4_s {F N : Nat} {h : Nat} {x1 : Int32} {x2 : Int32} {σ : Mem} : lp_X0_hoursOfAll_4 F h (N + 1) x1 x2 σ = (
  if (σ h 2) ≤ x2 then (
    some (x1, σ)
  ) else (
    wt_bnd (f_X0_hoursOf F h x2 σ) fun r1 s2 =>
    (lp_X0_hoursOfAll_4 F h N) (x1 + r1) (x2 + (1 : Int32)) s2
  )
  ) := rfl
noncomputable def f_X0_hoursOfAll (F : Nat) (h : Nat) (σ : Mem) : Option (Int32 × Mem) :=
  lp_X0_hoursOfAll_4 F h F (0 : Int32) (0 : Int32) σ
theorem f_X0_hoursOfAll_e {F : Nat} {h : Nat} {σ : Mem} : f_X0_hoursOfAll F h σ = (
  lp_X0_hoursOfAll_4 F h F (0 : Int32) (0 : Int32) σ
  ) := rfl
noncomputable def j_X0_standingIn_28 (F : Nat) (k4 : Int32 → Int32 → Mem → Option (Int32 × Mem)) (h : Nat) (x1 : Int32) (x2 : Int32) (x3 : Int32) (σ : Mem) : Option (Int32 × Mem) :=
  k4 x2 (x3 + (1 : Int32)) σ
theorem j_X0_standingIn_28_e {F : Nat} {k4 : Int32 → Int32 → Mem → Option (Int32 × Mem)} {h : Nat} {x1 : Int32} {x2 : Int32} {x3 : Int32} {σ : Mem} : j_X0_standingIn_28 F k4 h x1 x2 x3 σ = (
  k4 x2 (x3 + (1 : Int32)) σ
  ) := rfl
noncomputable def lp_X0_standingIn_4 (F : Nat) (h : Nat) (x1 : Int32) : Nat → Int32 → Int32 → Mem → Option (Int32 × Mem) := fun N => Nat.rec (motive := fun _ => Int32 → Int32 → Mem → Option (Int32 × Mem)) (fun _ _ _ => none) (fun _ ih x2 x3 σ =>
  if (σ h 2) ≤ x3 then (
    some (x2, σ)
  ) else (
    wt_chk x3 5 <|
    wt_chk x1 24 <|
    if (σ (h + 5 + Int32.toNatClampNeg x3) (Int32.toNatClampNeg x1)) = (9 : Int32) then (
      j_X0_standingIn_28 F ih h x1 x2 x3 σ
    ) else (
      j_X0_standingIn_28 F ih h x1 (x2 + (1 : Int32)) x3 σ
    )
  )
  ) N
theorem lp_X0_standingIn_4_s {F N : Nat} {h : Nat} {x1 : Int32} {x2 : Int32} {x3 : Int32} {σ : Mem} : lp_X0_standingIn_4 F h x1 (N + 1) x2 x3 σ = (
  if (σ h 2) ≤ x3 then (
    some (x2, σ)
  ) else (
    wt_chk x3 5 <|
    wt_chk x1 24 <|
    if (σ (h + 5 + Int32.toNatClampNeg x3) (Int32.toNatClampNeg x1)) = (9 : Int32) then (
      j_X0_standingIn_28 F (lp_X0_standingIn_4 F h x1 N) h x1 x2 x3 σ
    ) else (
      j_X0_standingIn_28 F (lp_X0_standingIn_4 F h x1 N) h x1 (x2 + (1 : Int32)) x3 σ
    )
  )
  ) := rfl
noncomputable def f_X0_standingIn (F : Nat) (h : Nat) (x1 : Int32) (σ : Mem) : Option (Int32 × Mem) :=
  lp_X0_standingIn_4 F h x1 F (0 : Int32) (0 : Int32) σ
theorem f_X0_standingIn_e {F : Nat} {h : Nat} {x1 : Int32} {σ : Mem} : f_X0_standingIn F h x1 σ = (
  lp_X0_standingIn_4 F h x1 F (0 : Int32) (0 : Int32) σ
  ) := rfl
noncomputable def lp_X0_gainOfAll_4 (F : Nat) (h : Nat) (x1 : Int32) : Nat → Int32 → Int32 → Mem → Option (Int32 × Mem) := fun N => Nat.rec (motive := fun _ => Int32 → Int32 → Mem → Option (Int32 × Mem)) (fun _ _ _ => none) (fun _ ih x2 x3 σ =>
  if (σ h 2) ≤ x3 then (
    some (x2, σ)
  ) else (
    wt_chk x3 5 <|
    wt_chk x1 8 <|
    wt_lt (x2 + (σ (h + 18 + Int32.toNatClampNeg x3) (Int32.toNatClampNeg x1))) fun z3 =>
    ih z3 (x3 + (1 : Int32)) σ
  )
  ) N
theorem lp_X0_gainOfAll_4_s {F N : Nat} {h : Nat} {x1 : Int32} {x2 : Int32} {x3 : Int32} {σ : Mem} : lp_X0_gainOfAll_4 F h x1 (N + 1) x2 x3 σ = (
  if (σ h 2) ≤ x3 then (
    some (x2, σ)
  ) else (
    wt_chk x3 5 <|
    wt_chk x1 8 <|
    wt_lt (x2 + (σ (h + 18 + Int32.toNatClampNeg x3) (Int32.toNatClampNeg x1))) fun z3 =>
    (lp_X0_gainOfAll_4 F h x1 N) z3 (x3 + (1 : Int32)) σ
  )
  ) := rfl
noncomputable def f_X0_gainOfAll (F : Nat) (h : Nat) (x1 : Int32) (σ : Mem) : Option (Int32 × Mem) :=
  lp_X0_gainOfAll_4 F h x1 F (0 : Int32) (0 : Int32) σ
theorem f_X0_gainOfAll_e {F : Nat} {h : Nat} {x1 : Int32} {σ : Mem} : f_X0_gainOfAll F h x1 σ = (
  lp_X0_gainOfAll_4 F h x1 F (0 : Int32) (0 : Int32) σ
  ) := rfl
noncomputable def j_X0_holder_71 (F : Nat) (k15 : Int32 → Int32 → Int32 → Int32 → Int32 → Mem → Option (Int32 × Mem)) (h : Nat) (x1 : Int32) (x2 : Int32) (x3 : Int32) (x4 : Int32) (x5 : Int32) (x6 : Int32) (x7 : Int32) (σ : Mem) : Option (Int32 × Mem) :=
  k15 x3 x4 x5 x6 (x7 + (1 : Int32)) σ
theorem j_X0_holder_71_e {F : Nat} {k15 : Int32 → Int32 → Int32 → Int32 → Int32 → Mem → Option (Int32 × Mem)} {h : Nat} {x1 : Int32} {x2 : Int32} {x3 : Int32} {x4 : Int32} {x5 : Int32} {x6 : Int32} {x7 : Int32} {σ : Mem} : j_X0_holder_71 F k15 h x1 x2 x3 x4 x5 x6 x7 σ = (
  k15 x3 x4 x5 x6 (x7 + (1 : Int32)) σ
  ) := rfl
noncomputable def j_X0_holder_108 (F : Nat) (σ : Mem) : Option (Int32 × Mem) :=
  some ((-9 : Int32), σ)
theorem j_X0_holder_108_e {F : Nat} {σ : Mem} : j_X0_holder_108 F σ = (
  some ((-9 : Int32), σ)
  ) := rfl
noncomputable def j_X0_holder_111 (F : Nat) (x3 : Int32) (σ : Mem) : Option (Int32 × Mem) :=
  some (x3, σ)
theorem j_X0_holder_111_e {F : Nat} {x3 : Int32} {σ : Mem} : j_X0_holder_111 F x3 σ = (
  some (x3, σ)
  ) := rfl
noncomputable def j_X0_holder_90 (F : Nat) (h : Nat) (x3 : Int32) (x4 : Int32) (x5 : Int32) (σ : Mem) : Option (Int32 × Mem) :=
  if (σ h 8) = (2 : Int32) then (
    if (x5 - x4) < x4 then (
      j_X0_holder_111 F x3 σ
    ) else (
      j_X0_holder_108 F σ
    )
  ) else (
    j_X0_holder_111 F x3 σ
  )
theorem j_X0_holder_90_e {F : Nat} {h : Nat} {x3 : Int32} {x4 : Int32} {x5 : Int32} {σ : Mem} : j_X0_holder_90 F h x3 x4 x5 σ = (
  if (σ h 8) = (2 : Int32) then (
    if (x5 - x4) < x4 then (
      j_X0_holder_111 F x3 σ
    ) else (
      j_X0_holder_108 F σ
    )
  ) else (
    j_X0_holder_111 F x3 σ
  )
  ) := rfl
noncomputable def lp_X0_holder_15 (F : Nat) (h : Nat) (x1 : Int32) (x2 : Int32) : Nat → Int32 → Int32 → Int32 → Int32 → Int32 → Mem → Option (Int32 × Mem) := fun N => Nat.rec (motive := fun _ => Int32 → Int32 → Int32 → Int32 → Int32 → Mem → Option (Int32 × Mem)) (fun _ _ _ _ _ _ => none) (fun _ ih x3 x4 x5 x6 x7 σ =>
  if (σ h 2) ≤ x7 then (
    if (σ h 8) = (1 : Int32) then (
      if x6 = 0 then (
        j_X0_holder_90 F h x3 x4 x5 σ
      ) else (
        j_X0_holder_108 F σ
      )
    ) else (
      j_X0_holder_90 F h x3 x4 x5 σ
    )
  ) else (
    wt_bnd (f_X0_behind F h x7 x1 x2 σ) fun r1 s2 =>
    if r1 ≤ x4 then (
      if r1 = x4 then (
        j_X0_holder_71 F ih h x1 x2 x3 x4 (x5 + r1) (1 : Int32) x7 s2
      ) else (
        j_X0_holder_71 F ih h x1 x2 x3 x4 (x5 + r1) x6 x7 s2
      )
    ) else (
      j_X0_holder_71 F ih h x1 x2 x7 r1 (x5 + r1) (0 : Int32) x7 s2
    )
  )
  ) N
theorem lp_X0_holder_15_s {F N : Nat} {h : Nat} {x1 : Int32} {x2 : Int32} {x3 : Int32} {x4 : Int32} {x5 : Int32} {x6 : Int32} {x7 : Int32} {σ : Mem} : lp_X0_holder_15 F h x1 x2 (N + 1) x3 x4 x5 x6 x7 σ = (
  if (σ h 2) ≤ x7 then (
    if (σ h 8) = (1 : Int32) then (
      if x6 = 0 then (
        j_X0_holder_90 F h x3 x4 x5 σ
      ) else (
        j_X0_holder_108 F σ
      )
    ) else (
      j_X0_holder_90 F h x3 x4 x5 σ
    )
  ) else (
    wt_bnd (f_X0_behind F h x7 x1 x2 σ) fun r1 s2 =>
    if r1 ≤ x4 then (
      if r1 = x4 then (
        j_X0_holder_71 F (lp_X0_holder_15 F h x1 x2 N) h x1 x2 x3 x4 (x5 + r1) (1 : Int32) x7 s2
      ) else (
        j_X0_holder_71 F (lp_X0_holder_15 F h x1 x2 N) h x1 x2 x3 x4 (x5 + r1) x6 x7 s2
      )
    ) else (
      j_X0_holder_71 F (lp_X0_holder_15 F h x1 x2 N) h x1 x2 x7 r1 (x5 + r1) (0 : Int32) x7 s2
    )
  )
  ) := rfl
noncomputable def f_X0_holder (F : Nat) (h : Nat) (x1 : Int32) (x2 : Int32) (σ : Mem) : Option (Int32 × Mem) :=
  lp_X0_holder_15 F h x1 x2 F (-9 : Int32) (0 : Int32) (0 : Int32) (0 : Int32) (0 : Int32) σ
theorem f_X0_holder_e {F : Nat} {h : Nat} {x1 : Int32} {x2 : Int32} {σ : Mem} : f_X0_holder F h x1 x2 σ = (
  lp_X0_holder_15 F h x1 x2 F (-9 : Int32) (0 : Int32) (0 : Int32) (0 : Int32) (0 : Int32) σ
  ) := rfl
noncomputable def j_X0_holdings_30 (F : Nat) (k5 : Int32 → Int32 → Mem → Option (Int32 × Mem)) (h : Nat) (x1 : Int32) (x2 : Int32) (x3 : Int32) (x4 : Int32) (σ : Mem) : Option (Int32 × Mem) :=
  k5 x3 (x4 + (1 : Int32)) σ
theorem j_X0_holdings_30_e {F : Nat} {k5 : Int32 → Int32 → Mem → Option (Int32 × Mem)} {h : Nat} {x1 : Int32} {x2 : Int32} {x3 : Int32} {x4 : Int32} {σ : Mem} : j_X0_holdings_30 F k5 h x1 x2 x3 x4 σ = (
  k5 x3 (x4 + (1 : Int32)) σ
  ) := rfl
noncomputable def lp_X0_holdings_5 (F : Nat) (h : Nat) (x1 : Int32) (x2 : Int32) : Nat → Int32 → Int32 → Mem → Option (Int32 × Mem) := fun N => Nat.rec (motive := fun _ => Int32 → Int32 → Mem → Option (Int32 × Mem)) (fun _ _ _ => none) (fun _ ih x3 x4 σ =>
  if (8 : Int32) ≤ x4 then (
    some (x3, σ)
  ) else (
    wt_bnd (f_X0_holder F h x4 x2 σ) fun r1 s2 =>
    if r1 = x1 then (
      wt_lt (x3 ||| ((1 : Int32) <<< (x4 &&& 31))) fun z3 =>
      j_X0_holdings_30 F ih h x1 x2 z3 x4 s2
    ) else (
      j_X0_holdings_30 F ih h x1 x2 x3 x4 s2
    )
  )
  ) N
theorem lp_X0_holdings_5_s {F N : Nat} {h : Nat} {x1 : Int32} {x2 : Int32} {x3 : Int32} {x4 : Int32} {σ : Mem} : lp_X0_holdings_5 F h x1 x2 (N + 1) x3 x4 σ = (
  if (8 : Int32) ≤ x4 then (
    some (x3, σ)
  ) else (
    wt_bnd (f_X0_holder F h x4 x2 σ) fun r1 s2 =>
    if r1 = x1 then (
      wt_lt (x3 ||| ((1 : Int32) <<< (x4 &&& 31))) fun z3 =>
      j_X0_holdings_30 F (lp_X0_holdings_5 F h x1 x2 N) h x1 x2 z3 x4 s2
    ) else (
      j_X0_holdings_30 F (lp_X0_holdings_5 F h x1 x2 N) h x1 x2 x3 x4 s2
    )
  )
  ) := rfl
noncomputable def f_X0_holdings (F : Nat) (h : Nat) (x1 : Int32) (x2 : Int32) (σ : Mem) : Option (Int32 × Mem) :=
  lp_X0_holdings_5 F h x1 x2 F (0 : Int32) (0 : Int32) σ
theorem f_X0_holdings_e {F : Nat} {h : Nat} {x1 : Int32} {x2 : Int32} {σ : Mem} : f_X0_holdings F h x1 x2 σ = (
  lp_X0_holdings_5 F h x1 x2 F (0 : Int32) (0 : Int32) σ
  ) := rfl
noncomputable def lp_X0_firstHolding_2 (F : Nat) (h : Nat) (x1 : Int32) (x2 : Int32) : Nat → Int32 → Mem → Option (Int32 × Mem) := fun N => Nat.rec (motive := fun _ => Int32 → Mem → Option (Int32 × Mem)) (fun _ _ => none) (fun _ ih x3 σ =>
  if (8 : Int32) ≤ x3 then (
    some ((-9 : Int32), σ)
  ) else (
    wt_bnd (f_X0_holder F h x3 x2 σ) fun r1 s2 =>
    if r1 = x1 then (
      some (x3, s2)
    ) else (
      ih (x3 + (1 : Int32)) s2
    )
  )
  ) N
theorem lp_X0_firstHolding_2_s {F N : Nat} {h : Nat} {x1 : Int32} {x2 : Int32} {x3 : Int32} {σ : Mem} : lp_X0_firstHolding_2 F h x1 x2 (N + 1) x3 σ = (
  if (8 : Int32) ≤ x3 then (
    some ((-9 : Int32), σ)
  ) else (
    wt_bnd (f_X0_holder F h x3 x2 σ) fun r1 s2 =>
    if r1 = x1 then (
      some (x3, s2)
    ) else (
      (lp_X0_firstHolding_2 F h x1 x2 N) (x3 + (1 : Int32)) s2
    )
  )
  ) := rfl
noncomputable def f_X0_firstHolding (F : Nat) (h : Nat) (x1 : Int32) (x2 : Int32) (σ : Mem) : Option (Int32 × Mem) :=
  lp_X0_firstHolding_2 F h x1 x2 F (0 : Int32) σ
theorem f_X0_firstHolding_e {F : Nat} {h : Nat} {x1 : Int32} {x2 : Int32} {σ : Mem} : f_X0_firstHolding F h x1 x2 σ = (
  lp_X0_firstHolding_2 F h x1 x2 F (0 : Int32) σ
  ) := rfl
noncomputable def f_X0_held (F : Nat) (h : Nat) (x1 : Int32) (σ : Mem) : Option (Int32 × Mem) :=
  wt_bnd (f_X0_holdings F h (-9 : Int32) x1 σ) fun r1 s2 =>
  some (((255 : Int32) - r1), s2)
theorem f_X0_held_e {F : Nat} {h : Nat} {x1 : Int32} {σ : Mem} : f_X0_held F h x1 σ = (
  wt_bnd (f_X0_holdings F h (-9 : Int32) x1 σ) fun r1 s2 =>
  some (((255 : Int32) - r1), s2)
  ) := rfl
noncomputable def j_X0_wealth_33 (F : Nat) (k5 : Int32 → Int32 → Mem → Option (Int32 × Mem)) (h : Nat) (x1 : Int32) (x2 : Int32) (x3 : Int32) (x4 : Int32) (σ : Mem) : Option (Int32 × Mem) :=
  k5 x3 (x4 + (1 : Int32)) σ
theorem j_X0_wealth_33_e {F : Nat} {k5 : Int32 → Int32 → Mem → Option (Int32 × Mem)} {h : Nat} {x1 : Int32} {x2 : Int32} {x3 : Int32} {x4 : Int32} {σ : Mem} : j_X0_wealth_33 F k5 h x1 x2 x3 x4 σ = (
  k5 x3 (x4 + (1 : Int32)) σ
  ) := rfl
noncomputable def lp_X0_wealth_5 (F : Nat) (h : Nat) (x1 : Int32) (x2 : Int32) : Nat → Int32 → Int32 → Mem → Option (Int32 × Mem) := fun N => Nat.rec (motive := fun _ => Int32 → Int32 → Mem → Option (Int32 × Mem)) (fun _ _ _ => none) (fun _ ih x3 x4 σ =>
  if (8 : Int32) ≤ x4 then (
    some (x3, σ)
  ) else (
    wt_bnd (f_X0_holder F h x4 x2 σ) fun r1 s2 =>
    if r1 = x1 then (
      wt_chk x4 8 <|
      wt_lt (x3 + (s2 (h + 16) (Int32.toNatClampNeg x4))) fun z4 =>
      j_X0_wealth_33 F ih h x1 x2 z4 x4 s2
    ) else (
      j_X0_wealth_33 F ih h x1 x2 x3 x4 s2
    )
  )
  ) N
theorem lp_X0_wealth_5_s {F N : Nat} {h : Nat} {x1 : Int32} {x2 : Int32} {x3 : Int32} {x4 : Int32} {σ : Mem} : lp_X0_wealth_5 F h x1 x2 (N + 1) x3 x4 σ = (
  if (8 : Int32) ≤ x4 then (
    some (x3, σ)
  ) else (
    wt_bnd (f_X0_holder F h x4 x2 σ) fun r1 s2 =>
    if r1 = x1 then (
      wt_chk x4 8 <|
      wt_lt (x3 + (s2 (h + 16) (Int32.toNatClampNeg x4))) fun z4 =>
      j_X0_wealth_33 F (lp_X0_wealth_5 F h x1 x2 N) h x1 x2 z4 x4 s2
    ) else (
      j_X0_wealth_33 F (lp_X0_wealth_5 F h x1 x2 N) h x1 x2 x3 x4 s2
    )
  )
  ) := rfl
noncomputable def f_X0_wealth (F : Nat) (h : Nat) (x1 : Int32) (x2 : Int32) (σ : Mem) : Option (Int32 × Mem) :=
  lp_X0_wealth_5 F h x1 x2 F (0 : Int32) (0 : Int32) σ
theorem f_X0_wealth_e {F : Nat} {h : Nat} {x1 : Int32} {x2 : Int32} {σ : Mem} : f_X0_wealth F h x1 x2 σ = (
  lp_X0_wealth_5 F h x1 x2 F (0 : Int32) (0 : Int32) σ
  ) := rfl
noncomputable def j_X0_wealthiest_38 (F : Nat) (k8 : Int32 → Int32 → Int32 → Mem → Option (Int32 × Mem)) (h : Nat) (x1 : Int32) (x2 : Int32) (x3 : Int32) (x4 : Int32) (σ : Mem) : Option (Int32 × Mem) :=
  k8 x2 x3 (x4 + (1 : Int32)) σ
theorem j_X0_wealthiest_38_e {F : Nat} {k8 : Int32 → Int32 → Int32 → Mem → Option (Int32 × Mem)} {h : Nat} {x1 : Int32} {x2 : Int32} {x3 : Int32} {x4 : Int32} {σ : Mem} : j_X0_wealthiest_38 F k8 h x1 x2 x3 x4 σ = (
  k8 x2 x3 (x4 + (1 : Int32)) σ
  ) := rfl
noncomputable def lp_X0_wealthiest_8 (F : Nat) (h : Nat) (x1 : Int32) : Nat → Int32 → Int32 → Int32 → Mem → Option (Int32 × Mem) := fun N => Nat.rec (motive := fun _ => Int32 → Int32 → Int32 → Mem → Option (Int32 × Mem)) (fun _ _ _ _ => none) (fun _ ih x2 x3 x4 σ =>
  if (σ h 2) ≤ x4 then (
    some (x2, σ)
  ) else (
    wt_bnd (f_X0_wealth F h x4 x1 σ) fun r1 s2 =>
    if r1 ≤ x3 then (
      j_X0_wealthiest_38 F ih h x1 x2 x3 x4 s2
    ) else (
      j_X0_wealthiest_38 F ih h x1 x4 r1 x4 s2
    )
  )
  ) N
theorem lp_X0_wealthiest_8_s {F N : Nat} {h : Nat} {x1 : Int32} {x2 : Int32} {x3 : Int32} {x4 : Int32} {σ : Mem} : lp_X0_wealthiest_8 F h x1 (N + 1) x2 x3 x4 σ = (
  if (σ h 2) ≤ x4 then (
    some (x2, σ)
  ) else (
    wt_bnd (f_X0_wealth F h x4 x1 σ) fun r1 s2 =>
    if r1 ≤ x3 then (
      j_X0_wealthiest_38 F (lp_X0_wealthiest_8 F h x1 N) h x1 x2 x3 x4 s2
    ) else (
      j_X0_wealthiest_38 F (lp_X0_wealthiest_8 F h x1 N) h x1 x4 r1 x4 s2
    )
  )
  ) := rfl
noncomputable def f_X0_wealthiest (F : Nat) (h : Nat) (x1 : Int32) (σ : Mem) : Option (Int32 × Mem) :=
  lp_X0_wealthiest_8 F h x1 F (-9 : Int32) (-1 : Int32) (0 : Int32) σ
theorem f_X0_wealthiest_e {F : Nat} {h : Nat} {x1 : Int32} {σ : Mem} : f_X0_wealthiest F h x1 σ = (
  lp_X0_wealthiest_8 F h x1 F (-9 : Int32) (-1 : Int32) (0 : Int32) σ
  ) := rfl
noncomputable def j_X0_lead_61 (F : Nat) (k6 : Int32 → Int32 → Mem → Option (Int32 × Mem)) (h : Nat) (x1 : Int32) (x2 : Int32) (x3 : Int32) (x4 : Int32) (x5 : Int32) (σ : Mem) : Option (Int32 × Mem) :=
  k6 x4 (x5 + (1 : Int32)) σ
theorem j_X0_lead_61_e {F : Nat} {k6 : Int32 → Int32 → Mem → Option (Int32 × Mem)} {h : Nat} {x1 : Int32} {x2 : Int32} {x3 : Int32} {x4 : Int32} {x5 : Int32} {σ : Mem} : j_X0_lead_61 F k6 h x1 x2 x3 x4 x5 σ = (
  k6 x4 (x5 + (1 : Int32)) σ
  ) := rfl
noncomputable def lp_X0_lead_6 (F : Nat) (h : Nat) (x1 : Int32) (x2 : Int32) (x3 : Int32) : Nat → Int32 → Int32 → Mem → Option (Int32 × Mem) := fun N => Nat.rec (motive := fun _ => Int32 → Int32 → Mem → Option (Int32 × Mem)) (fun _ _ _ => none) (fun _ ih x4 x5 σ =>
  if (8 : Int32) ≤ x5 then (
    some (x4, σ)
  ) else (
    wt_bnd (f_X0_holder F h x5 x3 σ) fun r1 s2 =>
    if r1 = x1 then (
      wt_chk x5 8 <|
      wt_lt (x4 + (s2 (h + 16) (Int32.toNatClampNeg x5))) fun z6 =>
      j_X0_lead_61 F ih h x1 x2 x3 z6 x5 s2
    ) else (
      if r1 = x2 then (
        wt_chk x5 8 <|
        wt_lt (x4 - (s2 (h + 16) (Int32.toNatClampNeg x5))) fun z4 =>
        j_X0_lead_61 F ih h x1 x2 x3 z4 x5 s2
      ) else (
        j_X0_lead_61 F ih h x1 x2 x3 x4 x5 s2
      )
    )
  )
  ) N
theorem lp_X0_lead_6_s {F N : Nat} {h : Nat} {x1 : Int32} {x2 : Int32} {x3 : Int32} {x4 : Int32} {x5 : Int32} {σ : Mem} : lp_X0_lead_6 F h x1 x2 x3 (N + 1) x4 x5 σ = (
  if (8 : Int32) ≤ x5 then (
    some (x4, σ)
  ) else (
    wt_bnd (f_X0_holder F h x5 x3 σ) fun r1 s2 =>
    if r1 = x1 then (
      wt_chk x5 8 <|
      wt_lt (x4 + (s2 (h + 16) (Int32.toNatClampNeg x5))) fun z6 =>
      j_X0_lead_61 F (lp_X0_lead_6 F h x1 x2 x3 N) h x1 x2 x3 z6 x5 s2
    ) else (
      if r1 = x2 then (
        wt_chk x5 8 <|
        wt_lt (x4 - (s2 (h + 16) (Int32.toNatClampNeg x5))) fun z4 =>
        j_X0_lead_61 F (lp_X0_lead_6 F h x1 x2 x3 N) h x1 x2 x3 z4 x5 s2
      ) else (
        j_X0_lead_61 F (lp_X0_lead_6 F h x1 x2 x3 N) h x1 x2 x3 x4 x5 s2
      )
    )
  )
  ) := rfl
noncomputable def f_X0_lead (F : Nat) (h : Nat) (x1 : Int32) (x2 : Int32) (x3 : Int32) (σ : Mem) : Option (Int32 × Mem) :=
  lp_X0_lead_6 F h x1 x2 x3 F (0 : Int32) (0 : Int32) σ
theorem f_X0_lead_e {F : Nat} {h : Nat} {x1 : Int32} {x2 : Int32} {x3 : Int32} {σ : Mem} : f_X0_lead F h x1 x2 x3 σ = (
  lp_X0_lead_6 F h x1 x2 x3 F (0 : Int32) (0 : Int32) σ
  ) := rfl
noncomputable def j_X0_outdo_59 (F : Nat) (k22 : Int32 → Mem → Option (Int32 × Mem)) (h : Nat) (x1 : Int32) (x2 : Int32) (x3 : Int32) (x4 : Int32) (x5 : Int32) (x6 : Int32) (σ : Mem) : Option (Int32 × Mem) :=
  k22 (x6 + (1 : Int32)) σ
theorem j_X0_outdo_59_e {F : Nat} {k22 : Int32 → Mem → Option (Int32 × Mem)} {h : Nat} {x1 : Int32} {x2 : Int32} {x3 : Int32} {x4 : Int32} {x5 : Int32} {x6 : Int32} {σ : Mem} : j_X0_outdo_59 F k22 h x1 x2 x3 x4 x5 x6 σ = (
  k22 (x6 + (1 : Int32)) σ
  ) := rfl
noncomputable def lp_X0_outdo_22 (F : Nat) (h : Nat) (x1 : Int32) (x2 : Int32) (x3 : Int32) (x4 : Int32) (x5 : Int32) : Nat → Int32 → Mem → Option (Int32 × Mem) := fun N => Nat.rec (motive := fun _ => Int32 → Mem → Option (Int32 × Mem)) (fun _ _ => none) (fun _ ih x6 σ =>
  if (σ h 2) ≤ x6 then (
    some ((1 : Int32), σ)
  ) else (
    if x6 = x1 then (
      j_X0_outdo_59 F ih h x1 x2 x3 x4 x5 x6 σ
    ) else (
      if x6 = x2 then (
        j_X0_outdo_59 F ih h x1 x2 x3 x4 x5 x6 σ
      ) else (
        wt_bnd (f_X0_behind F h x6 x3 x4 σ) fun r1 s2 =>
        if r1 < x5 then (
          j_X0_outdo_59 F ih h x1 x2 x3 x4 x5 x6 s2
        ) else (
          some ((0 : Int32), s2)
        )
      )
    )
  )
  ) N
theorem lp_X0_outdo_22_s {F N : Nat} {h : Nat} {x1 : Int32} {x2 : Int32} {x3 : Int32} {x4 : Int32} {x5 : Int32} {x6 : Int32} {σ : Mem} : lp_X0_outdo_22 F h x1 x2 x3 x4 x5 (N + 1) x6 σ = (
  if (σ h 2) ≤ x6 then (
    some ((1 : Int32), σ)
  ) else (
    if x6 = x1 then (
      j_X0_outdo_59 F (lp_X0_outdo_22 F h x1 x2 x3 x4 x5 N) h x1 x2 x3 x4 x5 x6 σ
    ) else (
      if x6 = x2 then (
        j_X0_outdo_59 F (lp_X0_outdo_22 F h x1 x2 x3 x4 x5 N) h x1 x2 x3 x4 x5 x6 σ
      ) else (
        wt_bnd (f_X0_behind F h x6 x3 x4 σ) fun r1 s2 =>
        if r1 < x5 then (
          j_X0_outdo_59 F (lp_X0_outdo_22 F h x1 x2 x3 x4 x5 N) h x1 x2 x3 x4 x5 x6 s2
        ) else (
          some ((0 : Int32), s2)
        )
      )
    )
  )
  ) := rfl
noncomputable def f_X0_outdo (F : Nat) (h : Nat) (x1 : Int32) (x2 : Int32) (x3 : Int32) (x4 : Int32) (σ : Mem) : Option (Int32 × Mem) :=
  wt_bnd (f_X0_behind F h x1 x3 x4 σ) fun r3 s4 =>
  wt_bnd (f_X0_behind F h x2 x3 x4 s4) fun r5 s6 =>
  lp_X0_outdo_22 F h x1 x2 x3 x4 (r3 + r5) F (0 : Int32) s6
theorem f_X0_outdo_e {F : Nat} {h : Nat} {x1 : Int32} {x2 : Int32} {x3 : Int32} {x4 : Int32} {σ : Mem} : f_X0_outdo F h x1 x2 x3 x4 σ = (
  wt_bnd (f_X0_behind F h x1 x3 x4 σ) fun r3 s4 =>
  wt_bnd (f_X0_behind F h x2 x3 x4 s4) fun r5 s6 =>
  lp_X0_outdo_22 F h x1 x2 x3 x4 (r3 + r5) F (0 : Int32) s6
  ) := rfl
noncomputable def j_X0_placeOf_58 (F : Nat) (k15 : Int32 → Int32 → Mem → Option (Int32 × Mem)) (h : Nat) (x1 : Int32) (x2 : Int32) (x3 : Int32) (x4 : Int32) (x5 : Int32) (σ : Mem) : Option (Int32 × Mem) :=
  k15 x3 (x5 + (1 : Int32)) σ
theorem j_X0_placeOf_58_e {F : Nat} {k15 : Int32 → Int32 → Mem → Option (Int32 × Mem)} {h : Nat} {x1 : Int32} {x2 : Int32} {x3 : Int32} {x4 : Int32} {x5 : Int32} {σ : Mem} : j_X0_placeOf_58 F k15 h x1 x2 x3 x4 x5 σ = (
  k15 x3 (x5 + (1 : Int32)) σ
  ) := rfl
noncomputable def j_X0_placeOf_55 (F : Nat) (k15 : Int32 → Int32 → Mem → Option (Int32 × Mem)) (h : Nat) (x1 : Int32) (x2 : Int32) (x3 : Int32) (x4 : Int32) (x5 : Int32) (σ : Mem) : Option (Int32 × Mem) :=
  j_X0_placeOf_58 F k15 h x1 x2 (x3 + (1 : Int32)) x4 x5 σ
theorem j_X0_placeOf_55_e {F : Nat} {k15 : Int32 → Int32 → Mem → Option (Int32 × Mem)} {h : Nat} {x1 : Int32} {x2 : Int32} {x3 : Int32} {x4 : Int32} {x5 : Int32} {σ : Mem} : j_X0_placeOf_55 F k15 h x1 x2 x3 x4 x5 σ = (
  j_X0_placeOf_58 F k15 h x1 x2 (x3 + (1 : Int32)) x4 x5 σ
  ) := rfl
noncomputable def lp_X0_placeOf_15 (F : Nat) (h : Nat) (x1 : Int32) (x2 : Int32) (x4 : Int32) : Nat → Int32 → Int32 → Mem → Option (Int32 × Mem) := fun N => Nat.rec (motive := fun _ => Int32 → Int32 → Mem → Option (Int32 × Mem)) (fun _ _ _ => none) (fun _ ih x3 x5 σ =>
  if (σ h 2) ≤ x5 then (
    some (x3, σ)
  ) else (
    wt_chk x5 5 <|
    wt_chk x2 8 <|
    wt_lt (σ (h + 11 + Int32.toNatClampNeg x5) (Int32.toNatClampNeg x2)) fun z3 =>
    if x4 < z3 then (
      j_X0_placeOf_55 F ih h x1 x2 x3 x4 x5 σ
    ) else (
      if z3 = x4 then (
        if x1 ≤ x5 then (
          j_X0_placeOf_58 F ih h x1 x2 x3 x4 x5 σ
        ) else (
          j_X0_placeOf_55 F ih h x1 x2 x3 x4 x5 σ
        )
      ) else (
        j_X0_placeOf_58 F ih h x1 x2 x3 x4 x5 σ
      )
    )
  )
  ) N
theorem lp_X0_placeOf_15_s {F N : Nat} {h : Nat} {x1 : Int32} {x2 : Int32} {x4 : Int32} {x3 : Int32} {x5 : Int32} {σ : Mem} : lp_X0_placeOf_15 F h x1 x2 x4 (N + 1) x3 x5 σ = (
  if (σ h 2) ≤ x5 then (
    some (x3, σ)
  ) else (
    wt_chk x5 5 <|
    wt_chk x2 8 <|
    wt_lt (σ (h + 11 + Int32.toNatClampNeg x5) (Int32.toNatClampNeg x2)) fun z3 =>
    if x4 < z3 then (
      j_X0_placeOf_55 F (lp_X0_placeOf_15 F h x1 x2 x4 N) h x1 x2 x3 x4 x5 σ
    ) else (
      if z3 = x4 then (
        if x1 ≤ x5 then (
          j_X0_placeOf_58 F (lp_X0_placeOf_15 F h x1 x2 x4 N) h x1 x2 x3 x4 x5 σ
        ) else (
          j_X0_placeOf_55 F (lp_X0_placeOf_15 F h x1 x2 x4 N) h x1 x2 x3 x4 x5 σ
        )
      ) else (
        j_X0_placeOf_58 F (lp_X0_placeOf_15 F h x1 x2 x4 N) h x1 x2 x3 x4 x5 σ
      )
    )
  )
  ) := rfl
noncomputable def f_X0_placeOf (F : Nat) (h : Nat) (x1 : Int32) (x2 : Int32) (σ : Mem) : Option (Int32 × Mem) :=
  wt_chk x1 5 <|
  wt_chk x2 8 <|
  wt_lt (σ (h + 11 + Int32.toNatClampNeg x1) (Int32.toNatClampNeg x2)) fun z6 =>
  lp_X0_placeOf_15 F h x1 x2 z6 F (0 : Int32) (0 : Int32) σ
theorem f_X0_placeOf_e {F : Nat} {h : Nat} {x1 : Int32} {x2 : Int32} {σ : Mem} : f_X0_placeOf F h x1 x2 σ = (
  wt_chk x1 5 <|
  wt_chk x2 8 <|
  wt_lt (σ (h + 11 + Int32.toNatClampNeg x1) (Int32.toNatClampNeg x2)) fun z6 =>
  lp_X0_placeOf_15 F h x1 x2 z6 F (0 : Int32) (0 : Int32) σ
  ) := rfl
noncomputable def f_X1_add (F : Nat) (x1 : Int32) (σ : Mem) : Option (Unit × Mem) :=
  if (σ 83 1) < 0 then (
    some ((), σ)
  ) else (
    if (96 : Int32) ≤ (σ 83 1) then (
      some ((), σ)
    ) else (
      wt_chk (σ 83 1) 96 <|
      wt_lt (up2 σ 84 (Int32.toNatClampNeg (σ 83 1)) x1) fun s2 =>
      wt_lt (up2 s2 83 1 ((s2 83 1) + (1 : Int32))) fun s3 =>
      some ((), s3)
    )
  )
theorem f_X1_add_e {F : Nat} {x1 : Int32} {σ : Mem} : f_X1_add F x1 σ = (
  if (σ 83 1) < 0 then (
    some ((), σ)
  ) else (
    if (96 : Int32) ≤ (σ 83 1) then (
      some ((), σ)
    ) else (
      wt_chk (σ 83 1) 96 <|
      wt_lt (up2 σ 84 (Int32.toNatClampNeg (σ 83 1)) x1) fun s2 =>
      wt_lt (up2 s2 83 1 ((s2 83 1) + (1 : Int32))) fun s3 =>
      some ((), s3)
    )
  )
  ) := rfl
noncomputable def f_X1_digitsOf (F : Nat) (x0 : Int32) (σ : Mem) : Option (Int32 × Mem) :=
  if x0 = (100 : Int32) then (
    some ((2 : Int32), σ)
  ) else
  if x0 = (108 : Int32) then (
    some ((2 : Int32), σ)
  ) else
  if x0 = (112 : Int32) then (
    some ((3 : Int32), σ)
  ) else
  if x0 = (115 : Int32) then (
    some ((6 : Int32), σ)
  ) else
  if x0 = (117 : Int32) then (
    some ((1 : Int32), σ)
  ) else
  if x0 = (118 : Int32) then (
    some ((2 : Int32), σ)
  ) else
  if x0 = (119 : Int32) then (
    some ((2 : Int32), σ)
  ) else
  (
    some ((-9 : Int32), σ)
  )
theorem f_X1_digitsOf_e {F : Nat} {x0 : Int32} {σ : Mem} : f_X1_digitsOf F x0 σ = (
  if x0 = (100 : Int32) then (
    some ((2 : Int32), σ)
  ) else
  if x0 = (108 : Int32) then (
    some ((2 : Int32), σ)
  ) else
  if x0 = (112 : Int32) then (
    some ((3 : Int32), σ)
  ) else
  if x0 = (115 : Int32) then (
    some ((6 : Int32), σ)
  ) else
  if x0 = (117 : Int32) then (
    some ((1 : Int32), σ)
  ) else
  if x0 = (118 : Int32) then (
    some ((2 : Int32), σ)
  ) else
  if x0 = (119 : Int32) then (
    some ((2 : Int32), σ)
  ) else
  (
    some ((-9 : Int32), σ)
  )
  ) := rfl
noncomputable def j_X1_isDigit_38 (F : Nat) (σ : Mem) : Option (Int32 × Mem) :=
  some ((0 : Int32), σ)
theorem j_X1_isDigit_38_e {F : Nat} {σ : Mem} : j_X1_isDigit_38 F σ = (
  some ((0 : Int32), σ)
  ) := rfl
noncomputable def f_X1_isDigit (F : Nat) (x1 : Int32) (σ : Mem) : Option (Int32 × Mem) :=
  if x1 < 0 then (
    j_X1_isDigit_38 F σ
  ) else (
    if (σ 83 1) ≤ x1 then (
      j_X1_isDigit_38 F σ
    ) else (
      wt_chk x1 96 <|
      if (σ 84 (Int32.toNatClampNeg x1)) < (48 : Int32) then (
        j_X1_isDigit_38 F σ
      ) else (
        if (57 : Int32) < (σ 84 (Int32.toNatClampNeg x1)) then (
          j_X1_isDigit_38 F σ
        ) else (
          some ((1 : Int32), σ)
        )
      )
    )
  )
theorem f_X1_isDigit_e {F : Nat} {x1 : Int32} {σ : Mem} : f_X1_isDigit F x1 σ = (
  if x1 < 0 then (
    j_X1_isDigit_38 F σ
  ) else (
    if (σ 83 1) ≤ x1 then (
      j_X1_isDigit_38 F σ
    ) else (
      wt_chk x1 96 <|
      if (σ 84 (Int32.toNatClampNeg x1)) < (48 : Int32) then (
        j_X1_isDigit_38 F σ
      ) else (
        if (57 : Int32) < (σ 84 (Int32.toNatClampNeg x1)) then (
          j_X1_isDigit_38 F σ
        ) else (
          some ((1 : Int32), σ)
        )
      )
    )
  )
  ) := rfl
noncomputable def j_X1_behind_12 (F : Nat) (σ : Mem) : Option (Int32 × Mem) :=
  some ((96 : Int32), σ)
theorem j_X1_behind_12_e {F : Nat} {σ : Mem} : j_X1_behind_12 F σ = (
  some ((96 : Int32), σ)
  ) := rfl
noncomputable def f_X1_behind (F : Nat) (x1 : Int32) (σ : Mem) : Option (Int32 × Mem) :=
  if x1 < 0 then (
    j_X1_behind_12 F σ
  ) else (
    if x1 < (σ 83 1) then (
      wt_chk x1 96 <|
      wt_bnd (f_X1_digitsOf F (σ 84 (Int32.toNatClampNeg x1)) σ) fun r2 s3 =>
      some (((x1 + (wt_max r2 (0 : Int32))) + (2 : Int32)), s3)
    ) else (
      j_X1_behind_12 F σ
    )
  )
theorem f_X1_behind_e {F : Nat} {x1 : Int32} {σ : Mem} : f_X1_behind F x1 σ = (
  if x1 < 0 then (
    j_X1_behind_12 F σ
  ) else (
    if x1 < (σ 83 1) then (
      wt_chk x1 96 <|
      wt_bnd (f_X1_digitsOf F (σ 84 (Int32.toNatClampNeg x1)) σ) fun r2 s3 =>
      some (((x1 + (wt_max r2 (0 : Int32))) + (2 : Int32)), s3)
    ) else (
      j_X1_behind_12 F σ
    )
  )
  ) := rfl
noncomputable def j_X1_faultOfForm_90 (F : Nat) (k15 : Int32 → Int32 → Int32 → Mem → Option (Int32 × Mem)) (x1 : Int32) (x2 : Int32) (x3 : Int32) (σ : Mem) : Option (Int32 × Mem) :=
  k15 x1 x2 (x3 + (1 : Int32)) σ
theorem j_X1_faultOfForm_90_e {F : Nat} {k15 : Int32 → Int32 → Int32 → Mem → Option (Int32 × Mem)} {x1 : Int32} {x2 : Int32} {x3 : Int32} {σ : Mem} : j_X1_faultOfForm_90 F k15 x1 x2 x3 σ = (
  k15 x1 x2 (x3 + (1 : Int32)) σ
  ) := rfl
noncomputable def j_X1_faultOfForm_48 (F : Nat) (k15 : Int32 → Int32 → Int32 → Mem → Option (Int32 × Mem)) (x1 : Int32) (x3 : Int32) (t0 : Int32) (σ : Mem) : Option (Int32 × Mem) :=
  if t0 = 0 then (
    some (x3, σ)
  ) else (
    j_X1_faultOfForm_90 F k15 x1 t0 x3 σ
  )
theorem j_X1_faultOfForm_48_e {F : Nat} {k15 : Int32 → Int32 → Int32 → Mem → Option (Int32 × Mem)} {x1 : Int32} {x3 : Int32} {t0 : Int32} {σ : Mem} : j_X1_faultOfForm_48 F k15 x1 x3 t0 σ = (
  if t0 = 0 then (
    some (x3, σ)
  ) else (
    j_X1_faultOfForm_90 F k15 x1 t0 x3 σ
  )
  ) := rfl
noncomputable def lp_X1_faultOfForm_15 (F : Nat) : Nat → Int32 → Int32 → Int32 → Mem → Option (Int32 × Mem) := fun N => Nat.rec (motive := fun _ => Int32 → Int32 → Int32 → Mem → Option (Int32 × Mem)) (fun _ _ _ _ => none) (fun _ ih x1 x2 x3 σ =>
  if (σ 83 1) ≤ x3 then (
    if x2 = 0 then (
      some ((-9 : Int32), σ)
    ) else (
      some ((σ 83 1), σ)
    )
  ) else (
    if x2 = 0 then (
      wt_chk x3 96 <|
      wt_bnd (f_X1_digitsOf F (σ 84 (Int32.toNatClampNeg x3)) σ) fun r5 s6 =>
      if r5 = (-9 : Int32) then (
        j_X1_faultOfForm_48 F ih r5 x3 (0 : Int32) s6
      ) else (
        j_X1_faultOfForm_48 F ih r5 x3 (1 : Int32) s6
      )
    ) else (
      if x1 ≤ 0 then (
        wt_chk x3 96 <|
        if (σ 84 (Int32.toNatClampNeg x3)) = (59 : Int32) then (
          j_X1_faultOfForm_90 F ih x1 (0 : Int32) x3 σ
        ) else (
          some (x3, σ)
        )
      ) else (
        wt_bnd (f_X1_isDigit F x3 σ) fun r2 s3 =>
        if r2 = 0 then (
          some (x3, s3)
        ) else (
          j_X1_faultOfForm_90 F ih (x1 + (-1 : Int32)) x2 x3 s3
        )
      )
    )
  )
  ) N
theorem lp_X1_faultOfForm_15_s {F N : Nat} {x1 : Int32} {x2 : Int32} {x3 : Int32} {σ : Mem} : lp_X1_faultOfForm_15 F (N + 1) x1 x2 x3 σ = (
  if (σ 83 1) ≤ x3 then (
    if x2 = 0 then (
      some ((-9 : Int32), σ)
    ) else (
      some ((σ 83 1), σ)
    )
  ) else (
    if x2 = 0 then (
      wt_chk x3 96 <|
      wt_bnd (f_X1_digitsOf F (σ 84 (Int32.toNatClampNeg x3)) σ) fun r5 s6 =>
      if r5 = (-9 : Int32) then (
        j_X1_faultOfForm_48 F (lp_X1_faultOfForm_15 F N) r5 x3 (0 : Int32) s6
      ) else (
        j_X1_faultOfForm_48 F (lp_X1_faultOfForm_15 F N) r5 x3 (1 : Int32) s6
      )
    ) else (
      if x1 ≤ 0 then (
        wt_chk x3 96 <|
        if (σ 84 (Int32.toNatClampNeg x3)) = (59 : Int32) then (
          j_X1_faultOfForm_90 F (lp_X1_faultOfForm_15 F N) x1 (0 : Int32) x3 σ
        ) else (
          some (x3, σ)
        )
      ) else (
        wt_bnd (f_X1_isDigit F x3 σ) fun r2 s3 =>
        if r2 = 0 then (
          some (x3, s3)
        ) else (
          j_X1_faultOfForm_90 F (lp_X1_faultOfForm_15 F N) (x1 + (-1 : Int32)) x2 x3 s3
        )
      )
    )
  )
  ) := rfl
noncomputable def f_X1_faultOfForm (F : Nat) (σ : Mem) : Option (Int32 × Mem) :=
  if (σ 83 1) = 0 then (
    some ((0 : Int32), σ)
  ) else (
    lp_X1_faultOfForm_15 F F (0 : Int32) (0 : Int32) (0 : Int32) σ
  )
theorem f_X1_faultOfForm_e {F : Nat} {σ : Mem} : f_X1_faultOfForm F σ = (
  if (σ 83 1) = 0 then (
    some ((0 : Int32), σ)
  ) else (
    lp_X1_faultOfForm_15 F F (0 : Int32) (0 : Int32) (0 : Int32) σ
  )
  ) := rfl
noncomputable def j_X1_number_40 (F : Nat) (k5 : Int32 → Int32 → Mem → Option (Int32 × Mem)) (x1 : Int32) (x2 : Int32) (x4 : Int32) (t0 : Int32) (t1 : Int32) (σ : Mem) : Option (Int32 × Mem) :=
  k5 (t0 + t1) (x4 + (1 : Int32)) σ
theorem j_X1_number_40_e {F : Nat} {k5 : Int32 → Int32 → Mem → Option (Int32 × Mem)} {x1 : Int32} {x2 : Int32} {x4 : Int32} {t0 : Int32} {t1 : Int32} {σ : Mem} : j_X1_number_40 F k5 x1 x2 x4 t0 t1 σ = (
  k5 (t0 + t1) (x4 + (1 : Int32)) σ
  ) := rfl
noncomputable def lp_X1_number_5 (F : Nat) (x1 : Int32) (x2 : Int32) : Nat → Int32 → Int32 → Mem → Option (Int32 × Mem) := fun N => Nat.rec (motive := fun _ => Int32 → Int32 → Mem → Option (Int32 × Mem)) (fun _ _ _ => none) (fun _ ih x3 x4 σ =>
  if (x1 + x2) ≤ x4 then (
    some (x3, σ)
  ) else (
    wt_bnd (f_X1_isDigit F x4 σ) fun r1 s2 =>
    if r1 = 0 then (
      j_X1_number_40 F ih x1 x2 x4 (x3 * (10 : Int32)) (0 : Int32) s2
    ) else (
      wt_chk x4 96 <|
      j_X1_number_40 F ih x1 x2 x4 (x3 * (10 : Int32)) ((s2 84 (Int32.toNatClampNeg x4)) - (48 : Int32)) s2
    )
  )
  ) N
theorem lp_X1_number_5_s {F N : Nat} {x1 : Int32} {x2 : Int32} {x3 : Int32} {x4 : Int32} {σ : Mem} : lp_X1_number_5 F x1 x2 (N + 1) x3 x4 σ = (
  if (x1 + x2) ≤ x4 then (
    some (x3, σ)
  ) else (
    wt_bnd (f_X1_isDigit F x4 σ) fun r1 s2 =>
    if r1 = 0 then (
      j_X1_number_40 F (lp_X1_number_5 F x1 x2 N) x1 x2 x4 (x3 * (10 : Int32)) (0 : Int32) s2
    ) else (
      wt_chk x4 96 <|
      j_X1_number_40 F (lp_X1_number_5 F x1 x2 N) x1 x2 x4 (x3 * (10 : Int32)) ((s2 84 (Int32.toNatClampNeg x4)) - (48 : Int32)) s2
    )
  )
  ) := rfl
noncomputable def f_X1_number (F : Nat) (x1 : Int32) (x2 : Int32) (σ : Mem) : Option (Int32 × Mem) :=
  lp_X1_number_5 F x1 x2 F (0 : Int32) x1 σ
theorem f_X1_number_e {F : Nat} {x1 : Int32} {x2 : Int32} {σ : Mem} : f_X1_number F x1 x2 σ = (
  lp_X1_number_5 F x1 x2 F (0 : Int32) x1 σ
  ) := rfl
noncomputable def j_X1_tell_12 (F : Nat) (σ : Mem) : Option (Int32 × Mem) :=
  some ((0 : Int32), σ)
theorem j_X1_tell_12_e {F : Nat} {σ : Mem} : j_X1_tell_12 F σ = (
  some ((0 : Int32), σ)
  ) := rfl
noncomputable def j_X1_tell_262 (F : Nat) (σ : Mem) : Option (Int32 × Mem) :=
  some ((0 : Int32), σ)
theorem j_X1_tell_262_e {F : Nat} {σ : Mem} : j_X1_tell_262 F σ = (
  some ((0 : Int32), σ)
  ) := rfl
noncomputable def f_X1_tell (F : Nat) (g : Nat) (x2 : Int32) (σ : Mem) : Option (Int32 × Mem) :=
  if x2 < 0 then (
    j_X1_tell_12 F σ
  ) else (
    if x2 < (σ 83 1) then (
      wt_chk x2 96 <|
      if (σ 84 (Int32.toNatClampNeg x2)) = (100 : Int32) then (
        wt_bnd (f_X1_number F (x2 + (1 : Int32)) (2 : Int32) σ) fun r3 s4 =>
        if (60 : Int32) < r3 then (
          j_X1_tell_262 F s4
        ) else (
          wt_bnd (f_X1_number F (x2 + (1 : Int32)) (2 : Int32) s4) fun r5 s6 =>
          wt_bnd (f_X0_pass F g r5 s6) fun r7 s8 =>
          if r7 = 0 then (
            j_X1_tell_262 F s8
          ) else (
            some ((1 : Int32), s8)
          )
        )
      ) else
      if (σ 84 (Int32.toNatClampNeg x2)) = (108 : Int32) then (
        wt_bnd (f_X1_number F (x2 + (1 : Int32)) (1 : Int32) σ) fun r9 s10 =>
        wt_bnd (f_X1_number F ((x2 + (1 : Int32)) + (1 : Int32)) (1 : Int32) s10) fun r11 s12 =>
        wt_bnd (f_X0_addLooker F g r9 r11 s12) fun r13 s14 =>
        wt_bz r13 <|
        some (r13, s14)
      ) else
      if (σ 84 (Int32.toNatClampNeg x2)) = (112 : Int32) then (
        wt_bnd (f_X1_number F (x2 + (1 : Int32)) (3 : Int32) σ) fun r15 s16 =>
        wt_bnd (f_X0_addPane F g r15 s16) fun r17 s18 =>
        wt_bz r17 <|
        some (r17, s18)
      ) else
      if (σ 84 (Int32.toNatClampNeg x2)) = (115 : Int32) then (
        wt_bnd (f_X1_number F (x2 + (1 : Int32)) (1 : Int32) σ) fun r19 s20 =>
        wt_bnd (f_X1_number F ((x2 + (1 : Int32)) + (1 : Int32)) (2 : Int32) s20) fun r21 s22 =>
        wt_bnd (f_X1_number F ((x2 + (1 : Int32)) + (3 : Int32)) (2 : Int32) s22) fun r23 s24 =>
        wt_bnd (f_X1_number F ((x2 + (1 : Int32)) + (5 : Int32)) (1 : Int32) s24) fun r25 s26 =>
        wt_bnd (f_X0_post F g r19 r21 r23 r25 s26) fun r27 s28 =>
        wt_bz r27 <|
        some (r27, s28)
      ) else
      if (σ 84 (Int32.toNatClampNeg x2)) = (117 : Int32) then (
        wt_bnd (f_X1_number F (x2 + (1 : Int32)) (1 : Int32) σ) fun r29 s30 =>
        wt_bnd (f_X0_rule F g r29 s30) fun r31 s32 =>
        wt_bz r31 <|
        some (r31, s32)
      ) else
      if (σ 84 (Int32.toNatClampNeg x2)) = (118 : Int32) then (
        wt_bnd (f_X1_number F (x2 + (1 : Int32)) (1 : Int32) σ) fun r33 s34 =>
        wt_bnd (f_X1_number F ((x2 + (1 : Int32)) + (1 : Int32)) (1 : Int32) s34) fun r35 s36 =>
        wt_bnd (f_X0_price F g r33 r35 s36) fun r37 s38 =>
        wt_bz r37 <|
        some (r37, s38)
      ) else
      if (σ 84 (Int32.toNatClampNeg x2)) = (119 : Int32) then (
        wt_bnd (f_X1_number F (x2 + (1 : Int32)) (1 : Int32) σ) fun r39 s40 =>
        wt_bnd (f_X1_number F ((x2 + (1 : Int32)) + (1 : Int32)) (1 : Int32) s40) fun r41 s42 =>
        wt_bnd (f_X0_flip F g r39 r41 s42) fun r43 s44 =>
        wt_bz r43 <|
        some (r43, s44)
      ) else
      (
        some ((0 : Int32), σ)
      )
    ) else (
      j_X1_tell_12 F σ
    )
  )
theorem f_X1_tell_e {F : Nat} {g : Nat} {x2 : Int32} {σ : Mem} : f_X1_tell F g x2 σ = (
  if x2 < 0 then (
    j_X1_tell_12 F σ
  ) else (
    if x2 < (σ 83 1) then (
      wt_chk x2 96 <|
      if (σ 84 (Int32.toNatClampNeg x2)) = (100 : Int32) then (
        wt_bnd (f_X1_number F (x2 + (1 : Int32)) (2 : Int32) σ) fun r3 s4 =>
        if (60 : Int32) < r3 then (
          j_X1_tell_262 F s4
        ) else (
          wt_bnd (f_X1_number F (x2 + (1 : Int32)) (2 : Int32) s4) fun r5 s6 =>
          wt_bnd (f_X0_pass F g r5 s6) fun r7 s8 =>
          if r7 = 0 then (
            j_X1_tell_262 F s8
          ) else (
            some ((1 : Int32), s8)
          )
        )
      ) else
      if (σ 84 (Int32.toNatClampNeg x2)) = (108 : Int32) then (
        wt_bnd (f_X1_number F (x2 + (1 : Int32)) (1 : Int32) σ) fun r9 s10 =>
        wt_bnd (f_X1_number F ((x2 + (1 : Int32)) + (1 : Int32)) (1 : Int32) s10) fun r11 s12 =>
        wt_bnd (f_X0_addLooker F g r9 r11 s12) fun r13 s14 =>
        wt_bz r13 <|
        some (r13, s14)
      ) else
      if (σ 84 (Int32.toNatClampNeg x2)) = (112 : Int32) then (
        wt_bnd (f_X1_number F (x2 + (1 : Int32)) (3 : Int32) σ) fun r15 s16 =>
        wt_bnd (f_X0_addPane F g r15 s16) fun r17 s18 =>
        wt_bz r17 <|
        some (r17, s18)
      ) else
      if (σ 84 (Int32.toNatClampNeg x2)) = (115 : Int32) then (
        wt_bnd (f_X1_number F (x2 + (1 : Int32)) (1 : Int32) σ) fun r19 s20 =>
        wt_bnd (f_X1_number F ((x2 + (1 : Int32)) + (1 : Int32)) (2 : Int32) s20) fun r21 s22 =>
        wt_bnd (f_X1_number F ((x2 + (1 : Int32)) + (3 : Int32)) (2 : Int32) s22) fun r23 s24 =>
        wt_bnd (f_X1_number F ((x2 + (1 : Int32)) + (5 : Int32)) (1 : Int32) s24) fun r25 s26 =>
        wt_bnd (f_X0_post F g r19 r21 r23 r25 s26) fun r27 s28 =>
        wt_bz r27 <|
        some (r27, s28)
      ) else
      if (σ 84 (Int32.toNatClampNeg x2)) = (117 : Int32) then (
        wt_bnd (f_X1_number F (x2 + (1 : Int32)) (1 : Int32) σ) fun r29 s30 =>
        wt_bnd (f_X0_rule F g r29 s30) fun r31 s32 =>
        wt_bz r31 <|
        some (r31, s32)
      ) else
      if (σ 84 (Int32.toNatClampNeg x2)) = (118 : Int32) then (
        wt_bnd (f_X1_number F (x2 + (1 : Int32)) (1 : Int32) σ) fun r33 s34 =>
        wt_bnd (f_X1_number F ((x2 + (1 : Int32)) + (1 : Int32)) (1 : Int32) s34) fun r35 s36 =>
        wt_bnd (f_X0_price F g r33 r35 s36) fun r37 s38 =>
        wt_bz r37 <|
        some (r37, s38)
      ) else
      if (σ 84 (Int32.toNatClampNeg x2)) = (119 : Int32) then (
        wt_bnd (f_X1_number F (x2 + (1 : Int32)) (1 : Int32) σ) fun r39 s40 =>
        wt_bnd (f_X1_number F ((x2 + (1 : Int32)) + (1 : Int32)) (1 : Int32) s40) fun r41 s42 =>
        wt_bnd (f_X0_flip F g r39 r41 s42) fun r43 s44 =>
        wt_bz r43 <|
        some (r43, s44)
      ) else
      (
        some ((0 : Int32), σ)
      )
    ) else (
      j_X1_tell_12 F σ
    )
  )
  ) := rfl
noncomputable def f_X2_forget (F : Nat) (σ : Mem) : Option (Unit × Mem) :=
  wt_lt (up2 σ 70 5 (0 : Int32)) fun s1 =>
  some ((), s1)
theorem f_X2_forget_e {F : Nat} {σ : Mem} : f_X2_forget F σ = (
  wt_lt (up2 σ 70 5 (0 : Int32)) fun s1 =>
  some ((), s1)
  ) := rfl
noncomputable def j_X2_nextSlot_48 (F : Nat) (x1 : Int32) (σ : Mem) : Option (Int32 × Mem) :=
  some (x1, σ)
theorem j_X2_nextSlot_48_e {F : Nat} {x1 : Int32} {σ : Mem} : j_X2_nextSlot_48 F x1 σ = (
  some (x1, σ)
  ) := rfl
noncomputable def f_X2_nextSlot (F : Nat) (σ : Mem) : Option (Int32 × Mem) :=
  wt_lt (((σ 70 4) + (σ 70 5)) - ((σ 70 4) + (σ 70 5)) / (8 : Int32) * (8 : Int32)) fun z1 =>
  if (8 : Int32) ≤ (σ 70 5) then (
    wt_lt (up2 σ 70 4 (((σ 70 4) + (1 : Int32)) - ((σ 70 4) + (1 : Int32)) / (8 : Int32) * (8 : Int32))) fun s2 =>
    j_X2_nextSlot_48 F z1 s2
  ) else (
    wt_lt (up2 σ 70 5 ((σ 70 5) + (1 : Int32))) fun s3 =>
    j_X2_nextSlot_48 F z1 s3
  )
theorem f_X2_nextSlot_e {F : Nat} {σ : Mem} : f_X2_nextSlot F σ = (
  wt_lt (((σ 70 4) + (σ 70 5)) - ((σ 70 4) + (σ 70 5)) / (8 : Int32) * (8 : Int32)) fun z1 =>
  if (8 : Int32) ≤ (σ 70 5) then (
    wt_lt (up2 σ 70 4 (((σ 70 4) + (1 : Int32)) - ((σ 70 4) + (1 : Int32)) / (8 : Int32) * (8 : Int32))) fun s2 =>
    j_X2_nextSlot_48 F z1 s2
  ) else (
    wt_lt (up2 σ 70 5 ((σ 70 5) + (1 : Int32))) fun s3 =>
    j_X2_nextSlot_48 F z1 s3
  )
  ) := rfl
noncomputable def f_X2_keep (F : Nat) (x1 : Int32) (x2 : Int32) (x3 : Int32) (σ : Mem) : Option (Unit × Mem) :=
  wt_bnd (f_X2_nextSlot F σ) fun r1 s2 =>
  wt_chk r1 8 <|
  wt_lt (up2 s2 71 (Int32.toNatClampNeg r1) x1) fun s4 =>
  wt_lt (up2 s4 72 (Int32.toNatClampNeg r1) x2) fun s5 =>
  wt_lt (up2 s5 73 (Int32.toNatClampNeg r1) x3) fun s6 =>
  some ((), s6)
theorem f_X2_keep_e {F : Nat} {x1 : Int32} {x2 : Int32} {x3 : Int32} {σ : Mem} : f_X2_keep F x1 x2 x3 σ = (
  wt_bnd (f_X2_nextSlot F σ) fun r1 s2 =>
  wt_chk r1 8 <|
  wt_lt (up2 s2 71 (Int32.toNatClampNeg r1) x1) fun s4 =>
  wt_lt (up2 s4 72 (Int32.toNatClampNeg r1) x2) fun s5 =>
  wt_lt (up2 s5 73 (Int32.toNatClampNeg r1) x3) fun s6 =>
  some ((), s6)
  ) := rfl
noncomputable def lp_X2_keepRoster_22 (F : Nat) (a : Nat) (x3 : Int32) : Nat → Int32 → Mem → Option (Unit × Mem) := fun N => Nat.rec (motive := fun _ => Int32 → Mem → Option (Unit × Mem)) (fun _ _ => none) (fun _ ih x4 σ =>
  if (24 : Int32) ≤ x4 then (
    some ((), σ)
  ) else (
    if (24 : Int32) ≤ x4 then (
      some ((), σ)
    ) else (
      wt_chk x3 8 <|
      wt_chk x4 24 <|
      wt_lt (up2 σ (75 + Int32.toNatClampNeg x3) (Int32.toNatClampNeg x4) (σ a (Int32.toNatClampNeg x4))) fun s3 =>
      ih (x4 + (1 : Int32)) s3
    )
  )
  ) N
theorem lp_X2_keepRoster_22_s {F N : Nat} {a : Nat} {x3 : Int32} {x4 : Int32} {σ : Mem} : lp_X2_keepRoster_22 F a x3 (N + 1) x4 σ = (
  if (24 : Int32) ≤ x4 then (
    some ((), σ)
  ) else (
    if (24 : Int32) ≤ x4 then (
      some ((), σ)
    ) else (
      wt_chk x3 8 <|
      wt_chk x4 24 <|
      wt_lt (up2 σ (75 + Int32.toNatClampNeg x3) (Int32.toNatClampNeg x4) (σ a (Int32.toNatClampNeg x4))) fun s3 =>
      (lp_X2_keepRoster_22 F a x3 N) (x4 + (1 : Int32)) s3
    )
  )
  ) := rfl
noncomputable def f_X2_keepRoster (F : Nat) (x1 : Int32) (a : Nat) (σ : Mem) : Option (Unit × Mem) :=
  wt_bnd (f_X2_nextSlot F σ) fun r4 s5 =>
  wt_chk r4 8 <|
  wt_lt (up2 s5 71 (Int32.toNatClampNeg r4) (0 : Int32)) fun s7 =>
  wt_lt (up2 s7 72 (Int32.toNatClampNeg r4) x1) fun s8 =>
  lp_X2_keepRoster_22 F a r4 F (0 : Int32) s8
theorem f_X2_keepRoster_e {F : Nat} {x1 : Int32} {a : Nat} {σ : Mem} : f_X2_keepRoster F x1 a σ = (
  wt_bnd (f_X2_nextSlot F σ) fun r4 s5 =>
  wt_chk r4 8 <|
  wt_lt (up2 s5 71 (Int32.toNatClampNeg r4) (0 : Int32)) fun s7 =>
  wt_lt (up2 s7 72 (Int32.toNatClampNeg r4) x1) fun s8 =>
  lp_X2_keepRoster_22 F a r4 F (0 : Int32) s8
  ) := rfl
noncomputable def lp_X2_undoLatest_75 (F : Nat) (g : Nat) (x2 : Int32) (x3 : Int32) : Nat → Int32 → Mem → Option (Unit × Mem) := fun N => Nat.rec (motive := fun _ => Int32 → Mem → Option (Unit × Mem)) (fun _ _ => none) (fun _ ih x4 σ =>
  if (24 : Int32) ≤ x4 then (
    some ((), σ)
  ) else (
    wt_chk x2 8 <|
    wt_chk x4 24 <|
    wt_bnd (f_X0_post F g x3 x4 x4 (σ (75 + Int32.toNatClampNeg x2) (Int32.toNatClampNeg x4)) σ) fun r3 s4 =>
    ih (x4 + (1 : Int32)) s4
  )
  ) N
theorem lp_X2_undoLatest_75_s {F N : Nat} {g : Nat} {x2 : Int32} {x3 : Int32} {x4 : Int32} {σ : Mem} : lp_X2_undoLatest_75 F g x2 x3 (N + 1) x4 σ = (
  if (24 : Int32) ≤ x4 then (
    some ((), σ)
  ) else (
    wt_chk x2 8 <|
    wt_chk x4 24 <|
    wt_bnd (f_X0_post F g x3 x4 x4 (σ (75 + Int32.toNatClampNeg x2) (Int32.toNatClampNeg x4)) σ) fun r3 s4 =>
    (lp_X2_undoLatest_75 F g x2 x3 N) (x4 + (1 : Int32)) s4
  )
  ) := rfl
noncomputable def f_X2_undoLatest (F : Nat) (g : Nat) (σ : Mem) : Option (Unit × Mem) :=
  if 0 < (σ 70 5) then (
    wt_lt (up2 σ 70 5 ((σ 70 5) - (1 : Int32))) fun s5 =>
    wt_lt (((s5 70 4) + (s5 70 5)) - ((s5 70 4) + (s5 70 5)) / (8 : Int32) * (8 : Int32)) fun z6 =>
    wt_chk z6 8 <|
    wt_lt (s5 72 (Int32.toNatClampNeg z6)) fun z8 =>
    if (s5 71 (Int32.toNatClampNeg z6)) = (0 : Int32) then (
      lp_X2_undoLatest_75 F g z6 z8 F (0 : Int32) s5
    ) else
    if (s5 71 (Int32.toNatClampNeg z6)) = (1 : Int32) then (
      wt_bnd (f_X0_isPane F g z8 s5) fun r10 s11 =>
      if r10 = 0 then (
        some ((), s11)
      ) else (
        wt_chk z8 6 <|
        wt_lt (up2 s11 (g + 1) (Int32.toNatClampNeg z8) (s11 73 (Int32.toNatClampNeg z6))) fun s13 =>
        some ((), s13)
      )
    ) else
    if (s5 71 (Int32.toNatClampNeg z6)) = (2 : Int32) then (
      wt_bnd (f_X0_price F g z8 (s5 73 (Int32.toNatClampNeg z6)) s5) fun r14 s15 =>
      some ((), s15)
    ) else
    (
      wt_bnd (f_X0_rule F g (s5 73 (Int32.toNatClampNeg z6)) s5) fun r16 s17 =>
      some ((), s17)
    )
  ) else (
    some ((), σ)
  )
theorem f_X2_undoLatest_e {F : Nat} {g : Nat} {σ : Mem} : f_X2_undoLatest F g σ = (
  if 0 < (σ 70 5) then (
    wt_lt (up2 σ 70 5 ((σ 70 5) - (1 : Int32))) fun s5 =>
    wt_lt (((s5 70 4) + (s5 70 5)) - ((s5 70 4) + (s5 70 5)) / (8 : Int32) * (8 : Int32)) fun z6 =>
    wt_chk z6 8 <|
    wt_lt (s5 72 (Int32.toNatClampNeg z6)) fun z8 =>
    if (s5 71 (Int32.toNatClampNeg z6)) = (0 : Int32) then (
      lp_X2_undoLatest_75 F g z6 z8 F (0 : Int32) s5
    ) else
    if (s5 71 (Int32.toNatClampNeg z6)) = (1 : Int32) then (
      wt_bnd (f_X0_isPane F g z8 s5) fun r10 s11 =>
      if r10 = 0 then (
        some ((), s11)
      ) else (
        wt_chk z8 6 <|
        wt_lt (up2 s11 (g + 1) (Int32.toNatClampNeg z8) (s11 73 (Int32.toNatClampNeg z6))) fun s13 =>
        some ((), s13)
      )
    ) else
    if (s5 71 (Int32.toNatClampNeg z6)) = (2 : Int32) then (
      wt_bnd (f_X0_price F g z8 (s5 73 (Int32.toNatClampNeg z6)) s5) fun r14 s15 =>
      some ((), s15)
    ) else
    (
      wt_bnd (f_X0_rule F g (s5 73 (Int32.toNatClampNeg z6)) s5) fun r16 s17 =>
      some ((), s17)
    )
  ) else (
    some ((), σ)
  )
  ) := rfl
noncomputable def j_X3_refuse_23 (F : Nat) (x1 : Int32) (σ : Mem) : Option (Int32 × Mem) :=
  some (x1, σ)
theorem j_X3_refuse_23_e {F : Nat} {x1 : Int32} {σ : Mem} : j_X3_refuse_23 F x1 σ = (
  some (x1, σ)
  ) := rfl
noncomputable def f_X3_refuse (F : Nat) (x1 : Int32) (σ : Mem) : Option (Int32 × Mem) :=
  if (-x1) < 0 then (
    j_X3_refuse_23 F x1 σ
  ) else (
    if (7 : Int32) ≤ (-x1) then (
      j_X3_refuse_23 F x1 σ
    ) else (
      wt_chk (-x1) 7 <|
      wt_lt (up2 σ 86 (Int32.toNatClampNeg (-x1)) ((σ 86 (Int32.toNatClampNeg (-x1))) + (1 : Int32))) fun s2 =>
      j_X3_refuse_23 F x1 s2
    )
  )
theorem f_X3_refuse_e {F : Nat} {x1 : Int32} {σ : Mem} : f_X3_refuse F x1 σ = (
  if (-x1) < 0 then (
    j_X3_refuse_23 F x1 σ
  ) else (
    if (7 : Int32) ≤ (-x1) then (
      j_X3_refuse_23 F x1 σ
    ) else (
      wt_chk (-x1) 7 <|
      wt_lt (up2 σ 86 (Int32.toNatClampNeg (-x1)) ((σ 86 (Int32.toNatClampNeg (-x1))) + (1 : Int32))) fun s2 =>
      j_X3_refuse_23 F x1 s2
    )
  )
  ) := rfl
noncomputable def f_X3_refuseLong (F : Nat) (x1 : Int32) (σ : Mem) : Option (Int64 × Mem) :=
  wt_bnd (f_X3_refuse F x1 σ) fun r1 s2 =>
  some (((4000000000000000000 : Int64) - (Int32.toInt64 r1)), s2)
theorem f_X3_refuseLong_e {F : Nat} {x1 : Int32} {σ : Mem} : f_X3_refuseLong F x1 σ = (
  wt_bnd (f_X3_refuse F x1 σ) fun r1 s2 =>
  some (((4000000000000000000 : Int64) - (Int32.toInt64 r1)), s2)
  ) := rfl
noncomputable def f_X3_firstOf (F : Nat) (x0 : Int32) (x1 : Int32) (σ : Mem) : Option (Int32 × Mem) :=
  if x0 = 0 then (
    some (x1, σ)
  ) else (
    some (x0, σ)
  )
theorem f_X3_firstOf_e {F : Nat} {x0 : Int32} {x1 : Int32} {σ : Mem} : f_X3_firstOf F x0 x1 σ = (
  if x0 = 0 then (
    some (x1, σ)
  ) else (
    some (x0, σ)
  )
  ) := rfl
noncomputable def f_X3_noView (F : Nat) (x0 : Int32) (σ : Mem) : Option (Int32 × Mem) :=
  wt_bnd (f_X0_isView F x0 σ) fun r1 s2 =>
  if r1 = 0 then (
    some ((-1 : Int32), s2)
  ) else (
    some ((0 : Int32), s2)
  )
theorem f_X3_noView_e {F : Nat} {x0 : Int32} {σ : Mem} : f_X3_noView F x0 σ = (
  wt_bnd (f_X0_isView F x0 σ) fun r1 s2 =>
  if r1 = 0 then (
    some ((-1 : Int32), s2)
  ) else (
    some ((0 : Int32), s2)
  )
  ) := rfl
noncomputable def f_X3_noHour (F : Nat) (x0 : Int32) (σ : Mem) : Option (Int32 × Mem) :=
  wt_bnd (f_X0_isHour F x0 σ) fun r1 s2 =>
  if r1 = 0 then (
    some ((-1 : Int32), s2)
  ) else (
    some ((0 : Int32), s2)
  )
theorem f_X3_noHour_e {F : Nat} {x0 : Int32} {σ : Mem} : f_X3_noHour F x0 σ = (
  wt_bnd (f_X0_isHour F x0 σ) fun r1 s2 =>
  if r1 = 0 then (
    some ((-1 : Int32), s2)
  ) else (
    some ((0 : Int32), s2)
  )
  ) := rfl
noncomputable def f_X3_noPane (F : Nat) (x1 : Int32) (σ : Mem) : Option (Int32 × Mem) :=
  wt_bnd (f_X0_isPane F 1 x1 σ) fun r1 s2 =>
  if r1 = 0 then (
    some ((-1 : Int32), s2)
  ) else (
    some ((0 : Int32), s2)
  )
theorem f_X3_noPane_e {F : Nat} {x1 : Int32} {σ : Mem} : f_X3_noPane F x1 σ = (
  wt_bnd (f_X0_isPane F 1 x1 σ) fun r1 s2 =>
  if r1 = 0 then (
    some ((-1 : Int32), s2)
  ) else (
    some ((0 : Int32), s2)
  )
  ) := rfl
noncomputable def f_X3_noLooker (F : Nat) (x1 : Int32) (σ : Mem) : Option (Int32 × Mem) :=
  wt_bnd (f_X0_isLooker F 1 x1 σ) fun r1 s2 =>
  if r1 = 0 then (
    some ((-1 : Int32), s2)
  ) else (
    some ((0 : Int32), s2)
  )
theorem f_X3_noLooker_e {F : Nat} {x1 : Int32} {σ : Mem} : f_X3_noLooker F x1 σ = (
  wt_bnd (f_X0_isLooker F 1 x1 σ) fun r1 s2 =>
  if r1 = 0 then (
    some ((-1 : Int32), s2)
  ) else (
    some ((0 : Int32), s2)
  )
  ) := rfl
noncomputable def j_X3_noPair_31 (F : Nat) (σ : Mem) : Option (Int32 × Mem) :=
  some ((-1 : Int32), σ)
theorem j_X3_noPair_31_e {F : Nat} {σ : Mem} : j_X3_noPair_31 F σ = (
  some ((-1 : Int32), σ)
  ) := rfl
noncomputable def f_X3_noPair (F : Nat) (x1 : Int32) (x2 : Int32) (σ : Mem) : Option (Int32 × Mem) :=
  wt_bnd (f_X0_isLooker F 1 x1 σ) fun r1 s2 =>
  if r1 = 0 then (
    j_X3_noPair_31 F s2
  ) else (
    wt_bnd (f_X0_isLooker F 1 x2 s2) fun r3 s4 =>
    if r3 = 0 then (
      j_X3_noPair_31 F s4
    ) else (
      if x1 = x2 then (
        j_X3_noPair_31 F s4
      ) else (
        some ((0 : Int32), s4)
      )
    )
  )
theorem f_X3_noPair_e {F : Nat} {x1 : Int32} {x2 : Int32} {σ : Mem} : f_X3_noPair F x1 x2 σ = (
  wt_bnd (f_X0_isLooker F 1 x1 σ) fun r1 s2 =>
  if r1 = 0 then (
    j_X3_noPair_31 F s2
  ) else (
    wt_bnd (f_X0_isLooker F 1 x2 s2) fun r3 s4 =>
    if r3 = 0 then (
      j_X3_noPair_31 F s4
    ) else (
      if x1 = x2 then (
        j_X3_noPair_31 F s4
      ) else (
        some ((0 : Int32), s4)
      )
    )
  )
  ) := rfl
noncomputable def j_X3_notBelow_13 (F : Nat) (σ : Mem) : Option (Int32 × Mem) :=
  some ((-2 : Int32), σ)
theorem j_X3_notBelow_13_e {F : Nat} {σ : Mem} : j_X3_notBelow_13 F σ = (
  some ((-2 : Int32), σ)
  ) := rfl
noncomputable def f_X3_notBelow (F : Nat) (x0 : Int32) (x1 : Int32) (σ : Mem) : Option (Int32 × Mem) :=
  if x0 < 0 then (
    j_X3_notBelow_13 F σ
  ) else (
    if x1 ≤ x0 then (
      j_X3_notBelow_13 F σ
    ) else (
      some ((0 : Int32), σ)
    )
  )
theorem f_X3_notBelow_e {F : Nat} {x0 : Int32} {x1 : Int32} {σ : Mem} : f_X3_notBelow F x0 x1 σ = (
  if x0 < 0 then (
    j_X3_notBelow_13 F σ
  ) else (
    if x1 ≤ x0 then (
      j_X3_notBelow_13 F σ
    ) else (
      some ((0 : Int32), σ)
    )
  )
  ) := rfl
noncomputable def f_X3_outside (F : Nat) (x0 : Int32) (x1 : Int32) (x2 : Int32) (σ : Mem) : Option (Int32 × Mem) :=
  if x1 ≤ x0 then (
    if x0 ≤ x2 then (
      some ((0 : Int32), σ)
    ) else (
      some ((-6 : Int32), σ)
    )
  ) else (
    some ((-4 : Int32), σ)
  )
theorem f_X3_outside_e {F : Nat} {x0 : Int32} {x1 : Int32} {x2 : Int32} {σ : Mem} : f_X3_outside F x0 x1 x2 σ = (
  if x1 ≤ x0 then (
    if x0 ≤ x2 then (
      some ((0 : Int32), σ)
    ) else (
      some ((-6 : Int32), σ)
    )
  ) else (
    some ((-4 : Int32), σ)
  )
  ) := rfl
noncomputable def f_X3_noLookerFar (F : Nat) (x1 : Int32) (x2 : Int32) (σ : Mem) : Option (Int32 × Mem) :=
  wt_bnd (f_X3_noLooker F x1 σ) fun r1 s2 =>
  wt_bnd (f_X3_outside F x2 (0 : Int32) (999 : Int32) s2) fun r3 s4 =>
  wt_bnd (f_X3_firstOf F r1 r3 s4) fun r5 s6 =>
  some (r5, s6)
theorem f_X3_noLookerFar_e {F : Nat} {x1 : Int32} {x2 : Int32} {σ : Mem} : f_X3_noLookerFar F x1 x2 σ = (
  wt_bnd (f_X3_noLooker F x1 σ) fun r1 s2 =>
  wt_bnd (f_X3_outside F x2 (0 : Int32) (999 : Int32) s2) fun r3 s4 =>
  wt_bnd (f_X3_firstOf F r1 r3 s4) fun r5 s6 =>
  some (r5, s6)
  ) := rfl
noncomputable def f_X3_noPairFar (F : Nat) (x1 : Int32) (x2 : Int32) (x3 : Int32) (σ : Mem) : Option (Int32 × Mem) :=
  wt_bnd (f_X3_noPair F x1 x2 σ) fun r1 s2 =>
  wt_bnd (f_X3_outside F x3 (0 : Int32) (999 : Int32) s2) fun r3 s4 =>
  wt_bnd (f_X3_firstOf F r1 r3 s4) fun r5 s6 =>
  some (r5, s6)
theorem f_X3_noPairFar_e {F : Nat} {x1 : Int32} {x2 : Int32} {x3 : Int32} {σ : Mem} : f_X3_noPairFar F x1 x2 x3 σ = (
  wt_bnd (f_X3_noPair F x1 x2 σ) fun r1 s2 =>
  wt_bnd (f_X3_outside F x3 (0 : Int32) (999 : Int32) s2) fun r3 s4 =>
  wt_bnd (f_X3_firstOf F r1 r3 s4) fun r5 s6 =>
  some (r5, s6)
  ) := rfl
noncomputable def f_X3_longRow (F : Nat) (σ : Mem) : Option (Int32 × Mem) :=
  if (σ 0 7) ≤ (8 : Int32) then (
    some ((0 : Int32), σ)
  ) else (
    some ((-3 : Int32), σ)
  )
theorem f_X3_longRow_e {F : Nat} {σ : Mem} : f_X3_longRow F σ = (
  if (σ 0 7) ≤ (8 : Int32) then (
    some ((0 : Int32), σ)
  ) else (
    some ((-3 : Int32), σ)
  )
  ) := rfl
noncomputable def j_X3_feed_28 (F : Nat) (x1 : Int32) (x2 : Int32) (σ : Mem) : Option (Int32 × Mem) :=
  if x2 = 0 then (
    wt_bnd (f_X1_add F x1 σ) fun r1 s2 =>
    some ((s2 83 1), s2)
  ) else (
    wt_bnd (f_X3_refuse F x2 σ) fun r3 s4 =>
    some (r3, s4)
  )
theorem j_X3_feed_28_e {F : Nat} {x1 : Int32} {x2 : Int32} {σ : Mem} : j_X3_feed_28 F x1 x2 σ = (
  if x2 = 0 then (
    wt_bnd (f_X1_add F x1 σ) fun r1 s2 =>
    some ((s2 83 1), s2)
  ) else (
    wt_bnd (f_X3_refuse F x2 σ) fun r3 s4 =>
    some (r3, s4)
  )
  ) := rfl
noncomputable def f_X3_feed (F : Nat) (x1 : Int32) (σ : Mem) : Option (Int32 × Mem) :=
  wt_bnd (f_X3_outside F x1 (0 : Int32) (255 : Int32) σ) fun r5 s6 =>
  if r5 = 0 then (
    if (s6 83 1) < (96 : Int32) then (
      j_X3_feed_28 F x1 r5 s6
    ) else (
      j_X3_feed_28 F x1 (-6 : Int32) s6
    )
  ) else (
    j_X3_feed_28 F x1 r5 s6
  )
theorem f_X3_feed_e {F : Nat} {x1 : Int32} {σ : Mem} : f_X3_feed F x1 σ = (
  wt_bnd (f_X3_outside F x1 (0 : Int32) (255 : Int32) σ) fun r5 s6 =>
  if r5 = 0 then (
    if (s6 83 1) < (96 : Int32) then (
      j_X3_feed_28 F x1 r5 s6
    ) else (
      j_X3_feed_28 F x1 (-6 : Int32) s6
    )
  ) else (
    j_X3_feed_28 F x1 r5 s6
  )
  ) := rfl
noncomputable def j_X3_tellTerrace_91 (F : Nat) (x2 : Int32) (σ : Mem) : Option (Int32 × Mem) :=
  wt_bnd (f_X0_takeFrom F 1 24 σ) fun r1 s2 =>
  wt_bnd (f_X2_forget F s2) fun r3 s4 =>
  some (x2, s4)
theorem j_X3_tellTerrace_91_e {F : Nat} {x2 : Int32} {σ : Mem} : j_X3_tellTerrace_91 F x2 σ = (
  wt_bnd (f_X0_takeFrom F 1 24 σ) fun r1 s2 =>
  wt_bnd (f_X2_forget F s2) fun r3 s4 =>
  some (x2, s4)
  ) := rfl
noncomputable def lp_X3_tellTerrace_35 (F : Nat) : Nat → Int32 → Int32 → Int32 → Mem → Option (Int32 × Mem) := fun N => Nat.rec (motive := fun _ => Int32 → Int32 → Int32 → Mem → Option (Int32 × Mem)) (fun _ _ _ _ => none) (fun _ ih x1 x2 x3 σ =>
  if (96 : Int32) ≤ x3 then (
    j_X3_tellTerrace_91 F x2 σ
  ) else (
    if (σ 83 1) ≤ x1 then (
      j_X3_tellTerrace_91 F x2 σ
    ) else (
      wt_bnd (f_X1_tell F 24 x1 σ) fun r5 s6 =>
      if r5 = 0 then (
        some (((-2000 : Int32) - x1), s6)
      ) else (
        wt_bnd (f_X1_behind F x1 s6) fun r7 s8 =>
        ih r7 (x2 + (1 : Int32)) (x3 + (1 : Int32)) s8
      )
    )
  )
  ) N
theorem lp_X3_tellTerrace_35_s {F N : Nat} {x1 : Int32} {x2 : Int32} {x3 : Int32} {σ : Mem} : lp_X3_tellTerrace_35 F (N + 1) x1 x2 x3 σ = (
  if (96 : Int32) ≤ x3 then (
    j_X3_tellTerrace_91 F x2 σ
  ) else (
    if (σ 83 1) ≤ x1 then (
      j_X3_tellTerrace_91 F x2 σ
    ) else (
      wt_bnd (f_X1_tell F 24 x1 σ) fun r5 s6 =>
      if r5 = 0 then (
        some (((-2000 : Int32) - x1), s6)
      ) else (
        wt_bnd (f_X1_behind F x1 s6) fun r7 s8 =>
        (lp_X3_tellTerrace_35 F N) r7 (x2 + (1 : Int32)) (x3 + (1 : Int32)) s8
      )
    )
  )
  ) := rfl
noncomputable def f_X3_tellTerrace (F : Nat) (σ : Mem) : Option (Int32 × Mem) :=
  wt_bnd (f_X1_faultOfForm F σ) fun r9 s10 =>
  if r9 < 0 then (
    wt_bnd (f_X0_takeFrom F 24 1 s10) fun r11 s12 =>
    lp_X3_tellTerrace_35 F F (0 : Int32) (0 : Int32) (0 : Int32) s12
  ) else (
    some (((-1000 : Int32) - r9), s10)
  )
theorem f_X3_tellTerrace_e {F : Nat} {σ : Mem} : f_X3_tellTerrace F σ = (
  wt_bnd (f_X1_faultOfForm F σ) fun r9 s10 =>
  if r9 < 0 then (
    wt_bnd (f_X0_takeFrom F 24 1 s10) fun r11 s12 =>
    lp_X3_tellTerrace_35 F F (0 : Int32) (0 : Int32) (0 : Int32) s12
  ) else (
    some (((-1000 : Int32) - r9), s10)
  )
  ) := rfl
noncomputable def f_X3_terrace (F : Nat) (σ : Mem) : Option (Int32 × Mem) :=
  wt_bnd (f_X3_tellTerrace F σ) fun r1 s2 =>
  wt_lt (up2 s2 83 1 (0 : Int32)) fun s3 =>
  some (r1, s3)
theorem f_X3_terrace_e {F : Nat} {σ : Mem} : f_X3_terrace F σ = (
  wt_bnd (f_X3_tellTerrace F σ) fun r1 s2 =>
  wt_lt (up2 s2 83 1 (0 : Int32)) fun s3 =>
  some (r1, s3)
  ) := rfl
noncomputable def f_X3_paneOf (F : Nat) (x1 : Int32) (x2 : Int32) (σ : Mem) : Option (Int32 × Mem) :=
  wt_bnd (f_X3_noPane F x1 σ) fun r1 s2 =>
  wt_bnd (f_X3_notBelow F x2 (2 : Int32) s2) fun r3 s4 =>
  wt_bnd (f_X3_firstOf F r1 r3 s4) fun r5 s6 =>
  if r5 = 0 then (
    if x2 = 0 then (
      wt_chk x1 6 <|
      some ((s6 (1 + 1) (Int32.toNatClampNeg x1)), s6)
    ) else (
      wt_bnd (f_X0_hoursAt F 1 x1 s6) fun r7 s8 =>
      some (r7, s8)
    )
  ) else (
    wt_bnd (f_X3_refuse F r5 s6) fun r10 s11 =>
    some (r10, s11)
  )
theorem f_X3_paneOf_e {F : Nat} {x1 : Int32} {x2 : Int32} {σ : Mem} : f_X3_paneOf F x1 x2 σ = (
  wt_bnd (f_X3_noPane F x1 σ) fun r1 s2 =>
  wt_bnd (f_X3_notBelow F x2 (2 : Int32) s2) fun r3 s4 =>
  wt_bnd (f_X3_firstOf F r1 r3 s4) fun r5 s6 =>
  if r5 = 0 then (
    if x2 = 0 then (
      wt_chk x1 6 <|
      some ((s6 (1 + 1) (Int32.toNatClampNeg x1)), s6)
    ) else (
      wt_bnd (f_X0_hoursAt F 1 x1 s6) fun r7 s8 =>
      some (r7, s8)
    )
  ) else (
    wt_bnd (f_X3_refuse F r5 s6) fun r10 s11 =>
    some (r10, s11)
  )
  ) := rfl
noncomputable def f_X3_lookerOf (F : Nat) (x1 : Int32) (x2 : Int32) (σ : Mem) : Option (Int32 × Mem) :=
  wt_bnd (f_X3_noLooker F x1 σ) fun r1 s2 =>
  wt_bnd (f_X3_notBelow F x2 (4 : Int32) s2) fun r3 s4 =>
  wt_bnd (f_X3_firstOf F r1 r3 s4) fun r5 s6 =>
  if r5 = 0 then (
    if x2 = (0 : Int32) then (
      wt_chk x1 5 <|
      some ((s6 (1 + 2) (Int32.toNatClampNeg x1)), s6)
    ) else
    if x2 = (1 : Int32) then (
      wt_chk x1 5 <|
      some ((s6 (1 + 3) (Int32.toNatClampNeg x1)), s6)
    ) else
    if x2 = (2 : Int32) then (
      wt_bnd (f_X0_hoursOf F 1 x1 s6) fun r10 s11 =>
      some (r10, s11)
    ) else
    (
      wt_bnd (f_X0_reckon F 1 s6) fun r12 s13 =>
      wt_bnd (f_X0_holdings F 1 x1 (0 : Int32) s13) fun r14 s15 =>
      some (r14, s15)
    )
  ) else (
    wt_bnd (f_X3_refuse F r5 s6) fun r16 s17 =>
    some (r16, s17)
  )
theorem f_X3_lookerOf_e {F : Nat} {x1 : Int32} {x2 : Int32} {σ : Mem} : f_X3_lookerOf F x1 x2 σ = (
  wt_bnd (f_X3_noLooker F x1 σ) fun r1 s2 =>
  wt_bnd (f_X3_notBelow F x2 (4 : Int32) s2) fun r3 s4 =>
  wt_bnd (f_X3_firstOf F r1 r3 s4) fun r5 s6 =>
  if r5 = 0 then (
    if x2 = (0 : Int32) then (
      wt_chk x1 5 <|
      some ((s6 (1 + 2) (Int32.toNatClampNeg x1)), s6)
    ) else
    if x2 = (1 : Int32) then (
      wt_chk x1 5 <|
      some ((s6 (1 + 3) (Int32.toNatClampNeg x1)), s6)
    ) else
    if x2 = (2 : Int32) then (
      wt_bnd (f_X0_hoursOf F 1 x1 s6) fun r10 s11 =>
      some (r10, s11)
    ) else
    (
      wt_bnd (f_X0_reckon F 1 s6) fun r12 s13 =>
      wt_bnd (f_X0_holdings F 1 x1 (0 : Int32) s13) fun r14 s15 =>
      some (r14, s15)
    )
  ) else (
    wt_bnd (f_X3_refuse F r5 s6) fun r16 s17 =>
    some (r16, s17)
  )
  ) := rfl
noncomputable def j_X3_pane_28 (F : Nat) (x1 : Int32) (x2 : Int32) (σ : Mem) : Option (Int32 × Mem) :=
  if x2 = 0 then (
    wt_bnd (f_X0_addPane F 1 x1 σ) fun r1 s2 =>
    wt_bnd (f_X2_forget F s2) fun r3 s4 =>
    some (((s4 1 0) - (1 : Int32)), s4)
  ) else (
    wt_bnd (f_X3_refuse F x2 σ) fun r5 s6 =>
    some (r5, s6)
  )
theorem j_X3_pane_28_e {F : Nat} {x1 : Int32} {x2 : Int32} {σ : Mem} : j_X3_pane_28 F x1 x2 σ = (
  if x2 = 0 then (
    wt_bnd (f_X0_addPane F 1 x1 σ) fun r1 s2 =>
    wt_bnd (f_X2_forget F s2) fun r3 s4 =>
    some (((s4 1 0) - (1 : Int32)), s4)
  ) else (
    wt_bnd (f_X3_refuse F x2 σ) fun r5 s6 =>
    some (r5, s6)
  )
  ) := rfl
noncomputable def f_X3_pane (F : Nat) (x1 : Int32) (σ : Mem) : Option (Int32 × Mem) :=
  wt_bnd (f_X3_outside F x1 (0 : Int32) (255 : Int32) σ) fun r7 s8 =>
  if r7 = 0 then (
    if (s8 1 0) < (6 : Int32) then (
      j_X3_pane_28 F x1 r7 s8
    ) else (
      j_X3_pane_28 F x1 (-6 : Int32) s8
    )
  ) else (
    j_X3_pane_28 F x1 r7 s8
  )
theorem f_X3_pane_e {F : Nat} {x1 : Int32} {σ : Mem} : f_X3_pane F x1 σ = (
  wt_bnd (f_X3_outside F x1 (0 : Int32) (255 : Int32) σ) fun r7 s8 =>
  if r7 = 0 then (
    if (s8 1 0) < (6 : Int32) then (
      j_X3_pane_28 F x1 r7 s8
    ) else (
      j_X3_pane_28 F x1 (-6 : Int32) s8
    )
  ) else (
    j_X3_pane_28 F x1 r7 s8
  )
  ) := rfl
noncomputable def j_X3_looker_35 (F : Nat) (x1 : Int32) (x2 : Int32) (x3 : Int32) (σ : Mem) : Option (Int32 × Mem) :=
  if x3 = 0 then (
    wt_bnd (f_X0_addLooker F 1 x1 x2 σ) fun r1 s2 =>
    wt_bnd (f_X2_forget F s2) fun r3 s4 =>
    some (((s4 1 2) - (1 : Int32)), s4)
  ) else (
    wt_bnd (f_X3_refuse F x3 σ) fun r5 s6 =>
    some (r5, s6)
  )
theorem j_X3_looker_35_e {F : Nat} {x1 : Int32} {x2 : Int32} {x3 : Int32} {σ : Mem} : j_X3_looker_35 F x1 x2 x3 σ = (
  if x3 = 0 then (
    wt_bnd (f_X0_addLooker F 1 x1 x2 σ) fun r1 s2 =>
    wt_bnd (f_X2_forget F s2) fun r3 s4 =>
    some (((s4 1 2) - (1 : Int32)), s4)
  ) else (
    wt_bnd (f_X3_refuse F x3 σ) fun r5 s6 =>
    some (r5, s6)
  )
  ) := rfl
noncomputable def f_X3_looker (F : Nat) (x1 : Int32) (x2 : Int32) (σ : Mem) : Option (Int32 × Mem) :=
  wt_bnd (f_X3_notBelow F x1 (6 : Int32) σ) fun r7 s8 =>
  wt_bnd (f_X3_outside F x2 (0 : Int32) (9 : Int32) s8) fun r9 s10 =>
  wt_bnd (f_X3_firstOf F r7 r9 s10) fun r11 s12 =>
  if r11 = 0 then (
    if (s12 1 2) < (5 : Int32) then (
      j_X3_looker_35 F x1 x2 r11 s12
    ) else (
      j_X3_looker_35 F x1 x2 (-6 : Int32) s12
    )
  ) else (
    j_X3_looker_35 F x1 x2 r11 s12
  )
theorem f_X3_looker_e {F : Nat} {x1 : Int32} {x2 : Int32} {σ : Mem} : f_X3_looker F x1 x2 σ = (
  wt_bnd (f_X3_notBelow F x1 (6 : Int32) σ) fun r7 s8 =>
  wt_bnd (f_X3_outside F x2 (0 : Int32) (9 : Int32) s8) fun r9 s10 =>
  wt_bnd (f_X3_firstOf F r7 r9 s10) fun r11 s12 =>
  if r11 = 0 then (
    if (s12 1 2) < (5 : Int32) then (
      j_X3_looker_35 F x1 x2 r11 s12
    ) else (
      j_X3_looker_35 F x1 x2 (-6 : Int32) s12
    )
  ) else (
    j_X3_looker_35 F x1 x2 r11 s12
  )
  ) := rfl
noncomputable def j_X3_stands_55 (F : Nat) (x1 : Int32) (x2 : Int32) (x3 : Int32) (x4 : Int32) (x5 : Int32) (σ : Mem) : Option (Int32 × Mem) :=
  if x5 = 0 then (
    wt_chk x1 5 <|
    wt_bnd (f_X2_keepRoster F x1 (1 + 5 + Int32.toNatClampNeg x1) σ) fun r2 s3 =>
    wt_bnd (f_X0_post F 1 x1 x2 x3 x4 s3) fun r4 s5 =>
    wt_bnd (f_X0_hoursOf F 1 x1 s5) fun r6 s7 =>
    some (r6, s7)
  ) else (
    wt_bnd (f_X3_refuse F x5 σ) fun r8 s9 =>
    some (r8, s9)
  )
theorem j_X3_stands_55_e {F : Nat} {x1 : Int32} {x2 : Int32} {x3 : Int32} {x4 : Int32} {x5 : Int32} {σ : Mem} : j_X3_stands_55 F x1 x2 x3 x4 x5 σ = (
  if x5 = 0 then (
    wt_chk x1 5 <|
    wt_bnd (f_X2_keepRoster F x1 (1 + 5 + Int32.toNatClampNeg x1) σ) fun r2 s3 =>
    wt_bnd (f_X0_post F 1 x1 x2 x3 x4 s3) fun r4 s5 =>
    wt_bnd (f_X0_hoursOf F 1 x1 s5) fun r6 s7 =>
    some (r6, s7)
  ) else (
    wt_bnd (f_X3_refuse F x5 σ) fun r8 s9 =>
    some (r8, s9)
  )
  ) := rfl
noncomputable def j_X3_stands_41 (F : Nat) (x1 : Int32) (x2 : Int32) (x3 : Int32) (x4 : Int32) (x5 : Int32) (σ : Mem) : Option (Int32 × Mem) :=
  if x5 = 0 then (
    if x2 ≤ x3 then (
      j_X3_stands_55 F x1 x2 x3 x4 x5 σ
    ) else (
      j_X3_stands_55 F x1 x2 x3 x4 (-3 : Int32) σ
    )
  ) else (
    j_X3_stands_55 F x1 x2 x3 x4 x5 σ
  )
theorem j_X3_stands_41_e {F : Nat} {x1 : Int32} {x2 : Int32} {x3 : Int32} {x4 : Int32} {x5 : Int32} {σ : Mem} : j_X3_stands_41 F x1 x2 x3 x4 x5 σ = (
  if x5 = 0 then (
    if x2 ≤ x3 then (
      j_X3_stands_55 F x1 x2 x3 x4 x5 σ
    ) else (
      j_X3_stands_55 F x1 x2 x3 x4 (-3 : Int32) σ
    )
  ) else (
    j_X3_stands_55 F x1 x2 x3 x4 x5 σ
  )
  ) := rfl
noncomputable def f_X3_stands (F : Nat) (x1 : Int32) (x2 : Int32) (x3 : Int32) (x4 : Int32) (σ : Mem) : Option (Int32 × Mem) :=
  wt_bnd (f_X3_noLooker F x1 σ) fun r10 s11 =>
  wt_bnd (f_X3_noHour F x2 s11) fun r12 s13 =>
  wt_bnd (f_X3_noHour F x3 s13) fun r14 s15 =>
  wt_bnd (f_X3_firstOf F r12 r14 s15) fun r16 s17 =>
  wt_bnd (f_X3_firstOf F r10 r16 s17) fun r18 s19 =>
  if r18 = 0 then (
    if x4 = (9 : Int32) then (
      j_X3_stands_41 F x1 x2 x3 x4 r18 s19
    ) else (
      wt_bnd (f_X3_noPane F x4 s19) fun r20 s21 =>
      j_X3_stands_41 F x1 x2 x3 x4 r20 s21
    )
  ) else (
    j_X3_stands_41 F x1 x2 x3 x4 r18 s19
  )
theorem f_X3_stands_e {F : Nat} {x1 : Int32} {x2 : Int32} {x3 : Int32} {x4 : Int32} {σ : Mem} : f_X3_stands F x1 x2 x3 x4 σ = (
  wt_bnd (f_X3_noLooker F x1 σ) fun r10 s11 =>
  wt_bnd (f_X3_noHour F x2 s11) fun r12 s13 =>
  wt_bnd (f_X3_noHour F x3 s13) fun r14 s15 =>
  wt_bnd (f_X3_firstOf F r12 r14 s15) fun r16 s17 =>
  wt_bnd (f_X3_firstOf F r10 r16 s17) fun r18 s19 =>
  if r18 = 0 then (
    if x4 = (9 : Int32) then (
      j_X3_stands_41 F x1 x2 x3 x4 r18 s19
    ) else (
      wt_bnd (f_X3_noPane F x4 s19) fun r20 s21 =>
      j_X3_stands_41 F x1 x2 x3 x4 r20 s21
    )
  ) else (
    j_X3_stands_41 F x1 x2 x3 x4 r18 s19
  )
  ) := rfl
noncomputable def f_X3_roster (F : Nat) (x1 : Int32) (x2 : Int32) (σ : Mem) : Option (Int32 × Mem) :=
  wt_bnd (f_X3_noLooker F x1 σ) fun r1 s2 =>
  wt_bnd (f_X3_noHour F x2 s2) fun r3 s4 =>
  wt_bnd (f_X3_firstOf F r1 r3 s4) fun r5 s6 =>
  if r5 = 0 then (
    wt_chk x1 5 <|
    wt_chk x2 24 <|
    wt_lt (s6 (1 + 5 + Int32.toNatClampNeg x1) (Int32.toNatClampNeg x2)) fun z9 =>
    if z9 = (9 : Int32) then (
      some ((-9 : Int32), s6)
    ) else (
      some (z9, s6)
    )
  ) else (
    wt_bnd (f_X3_refuse F r5 s6) fun r10 s11 =>
    some (r10, s11)
  )
theorem f_X3_roster_e {F : Nat} {x1 : Int32} {x2 : Int32} {σ : Mem} : f_X3_roster F x1 x2 σ = (
  wt_bnd (f_X3_noLooker F x1 σ) fun r1 s2 =>
  wt_bnd (f_X3_noHour F x2 s2) fun r3 s4 =>
  wt_bnd (f_X3_firstOf F r1 r3 s4) fun r5 s6 =>
  if r5 = 0 then (
    wt_chk x1 5 <|
    wt_chk x2 24 <|
    wt_lt (s6 (1 + 5 + Int32.toNatClampNeg x1) (Int32.toNatClampNeg x2)) fun z9 =>
    if z9 = (9 : Int32) then (
      some ((-9 : Int32), s6)
    ) else (
      some (z9, s6)
    )
  ) else (
    wt_bnd (f_X3_refuse F r5 s6) fun r10 s11 =>
    some (r10, s11)
  )
  ) := rfl
noncomputable def f_X3_wall (F : Nat) (x1 : Int32) (x2 : Int32) (σ : Mem) : Option (Int32 × Mem) :=
  wt_bnd (f_X3_noPane F x1 σ) fun r1 s2 =>
  wt_bnd (f_X3_noView F x2 s2) fun r3 s4 =>
  wt_bnd (f_X3_firstOf F r1 r3 s4) fun r5 s6 =>
  if r5 = 0 then (
    wt_chk x1 6 <|
    wt_bnd (f_X2_keep F (1 : Int32) x1 (s6 (1 + 1) (Int32.toNatClampNeg x1)) s6) fun r8 s9 =>
    wt_bnd (f_X0_flip F 1 x1 x2 s9) fun r10 s11 =>
    wt_bnd (f_X0_shows F 1 x1 x2 s11) fun r12 s13 =>
    if r12 = 0 then (
      some ((0 : Int32), s13)
    ) else (
      some ((1 : Int32), s13)
    )
  ) else (
    wt_bnd (f_X3_refuse F r5 s6) fun r14 s15 =>
    some (r14, s15)
  )
theorem f_X3_wall_e {F : Nat} {x1 : Int32} {x2 : Int32} {σ : Mem} : f_X3_wall F x1 x2 σ = (
  wt_bnd (f_X3_noPane F x1 σ) fun r1 s2 =>
  wt_bnd (f_X3_noView F x2 s2) fun r3 s4 =>
  wt_bnd (f_X3_firstOf F r1 r3 s4) fun r5 s6 =>
  if r5 = 0 then (
    wt_chk x1 6 <|
    wt_bnd (f_X2_keep F (1 : Int32) x1 (s6 (1 + 1) (Int32.toNatClampNeg x1)) s6) fun r8 s9 =>
    wt_bnd (f_X0_flip F 1 x1 x2 s9) fun r10 s11 =>
    wt_bnd (f_X0_shows F 1 x1 x2 s11) fun r12 s13 =>
    if r12 = 0 then (
      some ((0 : Int32), s13)
    ) else (
      some ((1 : Int32), s13)
    )
  ) else (
    wt_bnd (f_X3_refuse F r5 s6) fun r14 s15 =>
    some (r14, s15)
  )
  ) := rfl
noncomputable def f_X3_worth (F : Nat) (x1 : Int32) (x2 : Int32) (σ : Mem) : Option (Int32 × Mem) :=
  wt_bnd (f_X3_noView F x1 σ) fun r1 s2 =>
  wt_bnd (f_X3_outside F x2 (0 : Int32) (9 : Int32) s2) fun r3 s4 =>
  wt_bnd (f_X3_firstOf F r1 r3 s4) fun r5 s6 =>
  if r5 = 0 then (
    wt_chk x1 8 <|
    wt_lt (s6 (1 + 16) (Int32.toNatClampNeg x1)) fun z8 =>
    wt_bnd (f_X2_keep F (2 : Int32) x1 z8 s6) fun r9 s10 =>
    wt_bnd (f_X0_price F 1 x1 x2 s10) fun r11 s12 =>
    some (z8, s12)
  ) else (
    wt_bnd (f_X3_refuse F r5 s6) fun r13 s14 =>
    some (r13, s14)
  )
theorem f_X3_worth_e {F : Nat} {x1 : Int32} {x2 : Int32} {σ : Mem} : f_X3_worth F x1 x2 σ = (
  wt_bnd (f_X3_noView F x1 σ) fun r1 s2 =>
  wt_bnd (f_X3_outside F x2 (0 : Int32) (9 : Int32) s2) fun r3 s4 =>
  wt_bnd (f_X3_firstOf F r1 r3 s4) fun r5 s6 =>
  if r5 = 0 then (
    wt_chk x1 8 <|
    wt_lt (s6 (1 + 16) (Int32.toNatClampNeg x1)) fun z8 =>
    wt_bnd (f_X2_keep F (2 : Int32) x1 z8 s6) fun r9 s10 =>
    wt_bnd (f_X0_price F 1 x1 x2 s10) fun r11 s12 =>
    some (z8, s12)
  ) else (
    wt_bnd (f_X3_refuse F r5 s6) fun r13 s14 =>
    some (r13, s14)
  )
  ) := rfl
noncomputable def f_X3_law (F : Nat) (x1 : Int32) (σ : Mem) : Option (Int32 × Mem) :=
  wt_bnd (f_X3_notBelow F x1 (3 : Int32) σ) fun r1 s2 =>
  if r1 = 0 then (
    wt_bnd (f_X2_keep F (3 : Int32) (0 : Int32) (s2 1 8) s2) fun r3 s4 =>
    wt_bnd (f_X0_rule F 1 x1 s4) fun r5 s6 =>
    some ((s2 1 8), s6)
  ) else (
    wt_bnd (f_X3_refuse F r1 s2) fun r7 s8 =>
    some (r7, s8)
  )
theorem f_X3_law_e {F : Nat} {x1 : Int32} {σ : Mem} : f_X3_law F x1 σ = (
  wt_bnd (f_X3_notBelow F x1 (3 : Int32) σ) fun r1 s2 =>
  if r1 = 0 then (
    wt_bnd (f_X2_keep F (3 : Int32) (0 : Int32) (s2 1 8) s2) fun r3 s4 =>
    wt_bnd (f_X0_rule F 1 x1 s4) fun r5 s6 =>
    some ((s2 1 8), s6)
  ) else (
    wt_bnd (f_X3_refuse F r1 s2) fun r7 s8 =>
    some (r7, s8)
  )
  ) := rfl
noncomputable def f_J6_bitCount_0f7a4 (F : Nat) (x0 : Int32) (σ : Mem) : Option (Int32 × Mem) :=
  wt_lt (x0 - ((wt_ushr x0 (1 : Int32)) &&& (1431655765 : Int32))) fun z1 =>
  wt_lt ((z1 &&& (858993459 : Int32)) + ((wt_ushr z1 (2 : Int32)) &&& (858993459 : Int32))) fun z2 =>
  wt_lt ((z2 + (wt_ushr z2 (4 : Int32))) &&& (252645135 : Int32)) fun z3 =>
  wt_lt (z3 + (wt_ushr z3 (8 : Int32))) fun z4 =>
  wt_lt (z4 + (wt_ushr z4 (16 : Int32))) fun z5 =>
  some ((z5 &&& (63 : Int32)), σ)
theorem f_J6_bitCount_0f7a4_e {F : Nat} {x0 : Int32} {σ : Mem} : f_J6_bitCount_0f7a4 F x0 σ = (
  wt_lt (x0 - ((wt_ushr x0 (1 : Int32)) &&& (1431655765 : Int32))) fun z1 =>
  wt_lt ((z1 &&& (858993459 : Int32)) + ((wt_ushr z1 (2 : Int32)) &&& (858993459 : Int32))) fun z2 =>
  wt_lt ((z2 + (wt_ushr z2 (4 : Int32))) &&& (252645135 : Int32)) fun z3 =>
  wt_lt (z3 + (wt_ushr z3 (8 : Int32))) fun z4 =>
  wt_lt (z4 + (wt_ushr z4 (16 : Int32))) fun z5 =>
  some ((z5 &&& (63 : Int32)), σ)
  ) := rfl
noncomputable def j_X3_days_30 (F : Nat) (x1 : Int32) (x2 : Int32) (σ : Mem) : Option (Int32 × Mem) :=
  if x2 = 0 then (
    wt_bnd (f_X0_pass F 1 x1 σ) fun r1 s2 =>
    wt_bnd (f_X2_forget F s2) fun r3 s4 =>
    wt_bnd (f_X0_held F 1 (0 : Int32) s4) fun r5 s6 =>
    wt_bnd (f_J6_bitCount_0f7a4 F r5 s6) fun r7 s8 =>
    some (r7, s8)
  ) else (
    wt_bnd (f_X3_refuse F x2 σ) fun r9 s10 =>
    some (r9, s10)
  )
theorem j_X3_days_30_e {F : Nat} {x1 : Int32} {x2 : Int32} {σ : Mem} : j_X3_days_30 F x1 x2 σ = (
  if x2 = 0 then (
    wt_bnd (f_X0_pass F 1 x1 σ) fun r1 s2 =>
    wt_bnd (f_X2_forget F s2) fun r3 s4 =>
    wt_bnd (f_X0_held F 1 (0 : Int32) s4) fun r5 s6 =>
    wt_bnd (f_J6_bitCount_0f7a4 F r5 s6) fun r7 s8 =>
    some (r7, s8)
  ) else (
    wt_bnd (f_X3_refuse F x2 σ) fun r9 s10 =>
    some (r9, s10)
  )
  ) := rfl
noncomputable def f_X3_days (F : Nat) (x1 : Int32) (σ : Mem) : Option (Int32 × Mem) :=
  wt_bnd (f_X3_outside F x1 (1 : Int32) (99 : Int32) σ) fun r11 s12 =>
  if r11 = 0 then (
    if ((s12 1 9) + x1) ≤ (9999 : Int32) then (
      j_X3_days_30 F x1 r11 s12
    ) else (
      j_X3_days_30 F x1 (-6 : Int32) s12
    )
  ) else (
    j_X3_days_30 F x1 r11 s12
  )
theorem f_X3_days_e {F : Nat} {x1 : Int32} {σ : Mem} : f_X3_days F x1 σ = (
  wt_bnd (f_X3_outside F x1 (1 : Int32) (99 : Int32) σ) fun r11 s12 =>
  if r11 = 0 then (
    if ((s12 1 9) + x1) ≤ (9999 : Int32) then (
      j_X3_days_30 F x1 r11 s12
    ) else (
      j_X3_days_30 F x1 (-6 : Int32) s12
    )
  ) else (
    j_X3_days_30 F x1 r11 s12
  )
  ) := rfl
noncomputable def f_X3_back (F : Nat) (σ : Mem) : Option (Int32 × Mem) :=
  if (σ 70 5) = 0 then (
    wt_bnd (f_X3_refuse F (-3 : Int32) σ) fun r3 s4 =>
    some (r3, s4)
  ) else (
    wt_bnd (f_X2_undoLatest F 1 σ) fun r1 s2 =>
    some ((s2 70 5), s2)
  )
theorem f_X3_back_e {F : Nat} {σ : Mem} : f_X3_back F σ = (
  if (σ 70 5) = 0 then (
    wt_bnd (f_X3_refuse F (-3 : Int32) σ) fun r3 s4 =>
    some (r3, s4)
  ) else (
    wt_bnd (f_X2_undoLatest F 1 σ) fun r1 s2 =>
    some ((s2 70 5), s2)
  )
  ) := rfl
noncomputable def f_X3_counts (F : Nat) (x1 : Int32) (x2 : Int32) (x3 : Int32) (σ : Mem) : Option (Int32 × Mem) :=
  wt_bnd (f_X3_noLooker F x1 σ) fun r1 s2 =>
  wt_bnd (f_X3_noView F x2 s2) fun r3 s4 =>
  wt_bnd (f_X3_firstOf F r1 r3 s4) fun r5 s6 =>
  wt_bnd (f_X3_notBelow F x3 (2 : Int32) s6) fun r7 s8 =>
  wt_bnd (f_X3_firstOf F r5 r7 s8) fun r9 s10 =>
  if r9 = 0 then (
    wt_bnd (f_X0_reckon F 1 s10) fun r11 s12 =>
    if x3 = 0 then (
      wt_chk x1 5 <|
      wt_chk x2 8 <|
      some ((s12 (1 + 11 + Int32.toNatClampNeg x1) (Int32.toNatClampNeg x2)), s12)
    ) else (
      wt_chk x1 5 <|
      wt_chk x2 8 <|
      some ((s12 (1 + 18 + Int32.toNatClampNeg x1) (Int32.toNatClampNeg x2)), s12)
    )
  ) else (
    wt_bnd (f_X3_refuse F r9 s10) fun r17 s18 =>
    some (r17, s18)
  )
theorem f_X3_counts_e {F : Nat} {x1 : Int32} {x2 : Int32} {x3 : Int32} {σ : Mem} : f_X3_counts F x1 x2 x3 σ = (
  wt_bnd (f_X3_noLooker F x1 σ) fun r1 s2 =>
  wt_bnd (f_X3_noView F x2 s2) fun r3 s4 =>
  wt_bnd (f_X3_firstOf F r1 r3 s4) fun r5 s6 =>
  wt_bnd (f_X3_notBelow F x3 (2 : Int32) s6) fun r7 s8 =>
  wt_bnd (f_X3_firstOf F r5 r7 s8) fun r9 s10 =>
  if r9 = 0 then (
    wt_bnd (f_X0_reckon F 1 s10) fun r11 s12 =>
    if x3 = 0 then (
      wt_chk x1 5 <|
      wt_chk x2 8 <|
      some ((s12 (1 + 11 + Int32.toNatClampNeg x1) (Int32.toNatClampNeg x2)), s12)
    ) else (
      wt_chk x1 5 <|
      wt_chk x2 8 <|
      some ((s12 (1 + 18 + Int32.toNatClampNeg x1) (Int32.toNatClampNeg x2)), s12)
    )
  ) else (
    wt_bnd (f_X3_refuse F r9 s10) fun r17 s18 =>
    some (r17, s18)
  )
  ) := rfl
noncomputable def f_X3_owner (F : Nat) (x1 : Int32) (x2 : Int32) (σ : Mem) : Option (Int32 × Mem) :=
  wt_bnd (f_X3_noView F x1 σ) fun r1 s2 =>
  wt_bnd (f_X3_outside F x2 (0 : Int32) (999 : Int32) s2) fun r3 s4 =>
  wt_bnd (f_X3_firstOf F r1 r3 s4) fun r5 s6 =>
  if r5 = 0 then (
    wt_bnd (f_X0_reckon F 1 s6) fun r7 s8 =>
    wt_bnd (f_X0_holder F 1 x1 x2 s8) fun r9 s10 =>
    some (r9, s10)
  ) else (
    wt_bnd (f_X3_refuse F r5 s6) fun r11 s12 =>
    some (r11, s12)
  )
theorem f_X3_owner_e {F : Nat} {x1 : Int32} {x2 : Int32} {σ : Mem} : f_X3_owner F x1 x2 σ = (
  wt_bnd (f_X3_noView F x1 σ) fun r1 s2 =>
  wt_bnd (f_X3_outside F x2 (0 : Int32) (999 : Int32) s2) fun r3 s4 =>
  wt_bnd (f_X3_firstOf F r1 r3 s4) fun r5 s6 =>
  if r5 = 0 then (
    wt_bnd (f_X0_reckon F 1 s6) fun r7 s8 =>
    wt_bnd (f_X0_holder F 1 x1 x2 s8) fun r9 s10 =>
    some (r9, s10)
  ) else (
    wt_bnd (f_X3_refuse F r5 s6) fun r11 s12 =>
    some (r11, s12)
  )
  ) := rfl
noncomputable def f_X3_owns (F : Nat) (x1 : Int32) (x2 : Int32) (x3 : Int32) (σ : Mem) : Option (Int32 × Mem) :=
  wt_bnd (f_X3_noLookerFar F x1 x2 σ) fun r1 s2 =>
  wt_bnd (f_X3_notBelow F x3 (2 : Int32) s2) fun r3 s4 =>
  wt_bnd (f_X3_firstOf F r1 r3 s4) fun r5 s6 =>
  if r5 = 0 then (
    wt_bnd (f_X0_reckon F 1 s6) fun r7 s8 =>
    if x3 = 0 then (
      wt_bnd (f_X0_holdings F 1 x1 x2 s8) fun r11 s12 =>
      some (r11, s12)
    ) else (
      wt_bnd (f_X0_wealth F 1 x1 x2 s8) fun r9 s10 =>
      some (r9, s10)
    )
  ) else (
    wt_bnd (f_X3_refuse F r5 s6) fun r13 s14 =>
    some (r13, s14)
  )
theorem f_X3_owns_e {F : Nat} {x1 : Int32} {x2 : Int32} {x3 : Int32} {σ : Mem} : f_X3_owns F x1 x2 x3 σ = (
  wt_bnd (f_X3_noLookerFar F x1 x2 σ) fun r1 s2 =>
  wt_bnd (f_X3_notBelow F x3 (2 : Int32) s2) fun r3 s4 =>
  wt_bnd (f_X3_firstOf F r1 r3 s4) fun r5 s6 =>
  if r5 = 0 then (
    wt_bnd (f_X0_reckon F 1 s6) fun r7 s8 =>
    if x3 = 0 then (
      wt_bnd (f_X0_holdings F 1 x1 x2 s8) fun r11 s12 =>
      some (r11, s12)
    ) else (
      wt_bnd (f_X0_wealth F 1 x1 x2 s8) fun r9 s10 =>
      some (r9, s10)
    )
  ) else (
    wt_bnd (f_X3_refuse F r5 s6) fun r13 s14 =>
    some (r13, s14)
  )
  ) := rfl
noncomputable def f_X3_nobodys (F : Nat) (x1 : Int32) (σ : Mem) : Option (Int32 × Mem) :=
  wt_bnd (f_X3_outside F x1 (0 : Int32) (999 : Int32) σ) fun r1 s2 =>
  if r1 = 0 then (
    wt_bnd (f_X0_reckon F 1 s2) fun r3 s4 =>
    wt_bnd (f_X0_held F 1 x1 s4) fun r5 s6 =>
    some (((255 : Int32) - r5), s6)
  ) else (
    wt_bnd (f_X3_refuse F r1 s2) fun r7 s8 =>
    some (r7, s8)
  )
theorem f_X3_nobodys_e {F : Nat} {x1 : Int32} {σ : Mem} : f_X3_nobodys F x1 σ = (
  wt_bnd (f_X3_outside F x1 (0 : Int32) (999 : Int32) σ) fun r1 s2 =>
  if r1 = 0 then (
    wt_bnd (f_X0_reckon F 1 s2) fun r3 s4 =>
    wt_bnd (f_X0_held F 1 x1 s4) fun r5 s6 =>
    some (((255 : Int32) - r5), s6)
  ) else (
    wt_bnd (f_X3_refuse F r1 s2) fun r7 s8 =>
    some (r7, s8)
  )
  ) := rfl
noncomputable def lp_X3_from_33 (F : Nat) (x1 : Int32) (x2 : Int32) : Nat → Int32 → Mem → Option (Int32 × Mem) := fun N => Nat.rec (motive := fun _ => Int32 → Mem → Option (Int32 × Mem)) (fun _ _ => none) (fun _ ih x4 σ =>
  if (999 : Int32) < x4 then (
    some ((-9 : Int32), σ)
  ) else (
    wt_bnd (f_X0_holder F 1 x2 x4 σ) fun r1 s2 =>
    if r1 = x1 then (
      some (x4, s2)
    ) else (
      ih (x4 + (1 : Int32)) s2
    )
  )
  ) N
theorem lp_X3_from_33_s {F N : Nat} {x1 : Int32} {x2 : Int32} {x4 : Int32} {σ : Mem} : lp_X3_from_33 F x1 x2 (N + 1) x4 σ = (
  if (999 : Int32) < x4 then (
    some ((-9 : Int32), σ)
  ) else (
    wt_bnd (f_X0_holder F 1 x2 x4 σ) fun r1 s2 =>
    if r1 = x1 then (
      some (x4, s2)
    ) else (
      (lp_X3_from_33 F x1 x2 N) (x4 + (1 : Int32)) s2
    )
  )
  ) := rfl
noncomputable def f_X3_from (F : Nat) (x1 : Int32) (x2 : Int32) (σ : Mem) : Option (Int32 × Mem) :=
  wt_bnd (f_X3_noLooker F x1 σ) fun r3 s4 =>
  wt_bnd (f_X3_noView F x2 s4) fun r5 s6 =>
  wt_bnd (f_X3_firstOf F r3 r5 s6) fun r7 s8 =>
  if r7 = 0 then (
    wt_bnd (f_X0_reckon F 1 s8) fun r9 s10 =>
    lp_X3_from_33 F x1 x2 F (0 : Int32) s10
  ) else (
    wt_bnd (f_X3_refuse F r7 s8) fun r11 s12 =>
    some (r11, s12)
  )
theorem f_X3_from_e {F : Nat} {x1 : Int32} {x2 : Int32} {σ : Mem} : f_X3_from F x1 x2 σ = (
  wt_bnd (f_X3_noLooker F x1 σ) fun r3 s4 =>
  wt_bnd (f_X3_noView F x2 s4) fun r5 s6 =>
  wt_bnd (f_X3_firstOf F r3 r5 s6) fun r7 s8 =>
  if r7 = 0 then (
    wt_bnd (f_X0_reckon F 1 s8) fun r9 s10 =>
    lp_X3_from_33 F x1 x2 F (0 : Int32) s10
  ) else (
    wt_bnd (f_X3_refuse F r7 s8) fun r11 s12 =>
    some (r11, s12)
  )
  ) := rfl
noncomputable def lp_X3_lost_45 (F : Nat) (x1 : Int32) (x2 : Int32) : Nat → Int32 → Mem → Option (Int32 × Mem) := fun N => Nat.rec (motive := fun _ => Int32 → Mem → Option (Int32 × Mem)) (fun _ _ => none) (fun _ ih x3 σ =>
  if (999 : Int32) < x3 then (
    some ((-9 : Int32), σ)
  ) else (
    wt_bnd (f_X0_holder F 1 x1 x3 σ) fun r1 s2 =>
    if r1 = x2 then (
      ih (x3 + (1 : Int32)) s2
    ) else (
      some (x3, s2)
    )
  )
  ) N
theorem lp_X3_lost_45_s {F N : Nat} {x1 : Int32} {x2 : Int32} {x3 : Int32} {σ : Mem} : lp_X3_lost_45 F x1 x2 (N + 1) x3 σ = (
  if (999 : Int32) < x3 then (
    some ((-9 : Int32), σ)
  ) else (
    wt_bnd (f_X0_holder F 1 x1 x3 σ) fun r1 s2 =>
    if r1 = x2 then (
      (lp_X3_lost_45 F x1 x2 N) (x3 + (1 : Int32)) s2
    ) else (
      some (x3, s2)
    )
  )
  ) := rfl
noncomputable def f_X3_lost (F : Nat) (x1 : Int32) (σ : Mem) : Option (Int32 × Mem) :=
  wt_bnd (f_X0_isView F x1 σ) fun r3 s4 =>
  if r3 = 0 then (
    wt_bnd (f_X3_refuse F (-1 : Int32) s4) fun r11 s12 =>
    some (r11, s12)
  ) else (
    wt_bnd (f_X0_reckon F 1 s4) fun r5 s6 =>
    wt_bnd (f_X0_holder F 1 x1 (0 : Int32) s6) fun r7 s8 =>
    if r7 = (-9 : Int32) then (
      wt_bnd (f_X3_refuse F (-3 : Int32) s8) fun r9 s10 =>
      some (r9, s10)
    ) else (
      lp_X3_lost_45 F x1 r7 F (1 : Int32) s8
    )
  )
theorem f_X3_lost_e {F : Nat} {x1 : Int32} {σ : Mem} : f_X3_lost F x1 σ = (
  wt_bnd (f_X0_isView F x1 σ) fun r3 s4 =>
  if r3 = 0 then (
    wt_bnd (f_X3_refuse F (-1 : Int32) s4) fun r11 s12 =>
    some (r11, s12)
  ) else (
    wt_bnd (f_X0_reckon F 1 s4) fun r5 s6 =>
    wt_bnd (f_X0_holder F 1 x1 (0 : Int32) s6) fun r7 s8 =>
    if r7 = (-9 : Int32) then (
      wt_bnd (f_X3_refuse F (-3 : Int32) s8) fun r9 s10 =>
      some (r9, s10)
    ) else (
      lp_X3_lost_45 F x1 r7 F (1 : Int32) s8
    )
  )
  ) := rfl
noncomputable def j_X3_richest_55 (F : Nat) (x4 : Int32) (σ : Mem) : Option (Int32 × Mem) :=
  some (x4, σ)
theorem j_X3_richest_55_e {F : Nat} {x4 : Int32} {σ : Mem} : j_X3_richest_55 F x4 σ = (
  some (x4, σ)
  ) := rfl
noncomputable def f_X3_richest (F : Nat) (x1 : Int32) (x2 : Int32) (σ : Mem) : Option (Int32 × Mem) :=
  wt_bnd (f_X3_outside F x1 (0 : Int32) (999 : Int32) σ) fun r1 s2 =>
  wt_bnd (f_X3_notBelow F x2 (2 : Int32) s2) fun r3 s4 =>
  wt_bnd (f_X3_firstOf F r1 r3 s4) fun r5 s6 =>
  if r5 = 0 then (
    wt_bnd (f_X0_reckon F 1 s6) fun r7 s8 =>
    wt_bnd (f_X0_wealthiest F 1 x1 s8) fun r9 s10 =>
    if x2 = 0 then (
      j_X3_richest_55 F r9 s10
    ) else (
      if r9 = (-9 : Int32) then (
        j_X3_richest_55 F r9 s10
      ) else (
        wt_bnd (f_X0_wealth F 1 r9 x1 s10) fun r11 s12 =>
        some (r11, s12)
      )
    )
  ) else (
    wt_bnd (f_X3_refuse F r5 s6) fun r13 s14 =>
    some (r13, s14)
  )
theorem f_X3_richest_e {F : Nat} {x1 : Int32} {x2 : Int32} {σ : Mem} : f_X3_richest F x1 x2 σ = (
  wt_bnd (f_X3_outside F x1 (0 : Int32) (999 : Int32) σ) fun r1 s2 =>
  wt_bnd (f_X3_notBelow F x2 (2 : Int32) s2) fun r3 s4 =>
  wt_bnd (f_X3_firstOf F r1 r3 s4) fun r5 s6 =>
  if r5 = 0 then (
    wt_bnd (f_X0_reckon F 1 s6) fun r7 s8 =>
    wt_bnd (f_X0_wealthiest F 1 x1 s8) fun r9 s10 =>
    if x2 = 0 then (
      j_X3_richest_55 F r9 s10
    ) else (
      if r9 = (-9 : Int32) then (
        j_X3_richest_55 F r9 s10
      ) else (
        wt_bnd (f_X0_wealth F 1 r9 x1 s10) fun r11 s12 =>
        some (r11, s12)
      )
    )
  ) else (
    wt_bnd (f_X3_refuse F r5 s6) fun r13 s14 =>
    some (r13, s14)
  )
  ) := rfl
noncomputable def f_X3_staredOut (F : Nat) (x1 : Int32) (x2 : Int32) (x3 : Int32) (σ : Mem) : Option (Int32 × Mem) :=
  wt_bnd (f_X3_noPairFar F x1 x2 x3 σ) fun r1 s2 =>
  if r1 = 0 then (
    wt_bnd (f_X0_reckon F 1 s2) fun r3 s4 =>
    wt_bnd (f_X0_holdings F 1 x1 (0 : Int32) s4) fun r5 s6 =>
    wt_bnd (f_X0_holdings F 1 x2 x3 s6) fun r7 s8 =>
    some ((r5 &&& r7), s8)
  ) else (
    wt_bnd (f_X3_refuse F r1 s2) fun r9 s10 =>
    some (r9, s10)
  )
theorem f_X3_staredOut_e {F : Nat} {x1 : Int32} {x2 : Int32} {x3 : Int32} {σ : Mem} : f_X3_staredOut F x1 x2 x3 σ = (
  wt_bnd (f_X3_noPairFar F x1 x2 x3 σ) fun r1 s2 =>
  if r1 = 0 then (
    wt_bnd (f_X0_reckon F 1 s2) fun r3 s4 =>
    wt_bnd (f_X0_holdings F 1 x1 (0 : Int32) s4) fun r5 s6 =>
    wt_bnd (f_X0_holdings F 1 x2 x3 s6) fun r7 s8 =>
    some ((r5 &&& r7), s8)
  ) else (
    wt_bnd (f_X3_refuse F r1 s2) fun r9 s10 =>
    some (r9, s10)
  )
  ) := rfl
noncomputable def j_X3_hoursUntilOwned_107 (F : Nat) (k25 : Int32 → Int32 → Mem → Option (Int32 × Mem)) (k33 : Int32 → Int32 → Mem → Option (Int32 × Mem)) (x1 : Int32) (x2 : Int32) (x3 : Int32) (x4 : Int32) (x5 : Int32) (x6 : Int32) (σ : Mem) : Option (Int32 × Mem) :=
  k33 x4 (x6 + (1 : Int32)) σ
theorem j_X3_hoursUntilOwned_107_e {F : Nat} {k25 : Int32 → Int32 → Mem → Option (Int32 × Mem)} {k33 : Int32 → Int32 → Mem → Option (Int32 × Mem)} {x1 : Int32} {x2 : Int32} {x3 : Int32} {x4 : Int32} {x5 : Int32} {x6 : Int32} {σ : Mem} : j_X3_hoursUntilOwned_107 F k25 k33 x1 x2 x3 x4 x5 x6 σ = (
  k33 x4 (x6 + (1 : Int32)) σ
  ) := rfl
noncomputable def lp_X3_hoursUntilOwned_33 (F : Nat) (k25 : Int32 → Int32 → Mem → Option (Int32 × Mem)) (x1 : Int32) (x2 : Int32) (x3 : Int32) (x5 : Int32) : Nat → Int32 → Int32 → Mem → Option (Int32 × Mem) := fun N => Nat.rec (motive := fun _ => Int32 → Int32 → Mem → Option (Int32 × Mem)) (fun _ _ _ => none) (fun _ ih x4 x6 σ =>
  if (24 : Int32) ≤ x6 then (
    k25 x4 (x5 + (-1 : Int32)) σ
  ) else (
    wt_chk x1 5 <|
    wt_chk x6 24 <|
    if (σ (1 + 5 + Int32.toNatClampNeg x1) (Int32.toNatClampNeg x6)) = (9 : Int32) then (
      wt_bnd (f_X0_pull F 1 x1 x6 σ) fun r3 s4 =>
      if r3 = x5 then (
        wt_chk x2 8 <|
        wt_lt (up2 s4 (24 + 18 + Int32.toNatClampNeg x1) (Int32.toNatClampNeg x2) ((s4 (24 + 18 + Int32.toNatClampNeg x1) (Int32.toNatClampNeg x2)) + x5)) fun s6 =>
        wt_bnd (f_X0_holder F 24 x2 x3 s6) fun r7 s8 =>
        if r7 = x1 then (
          some ((x4 + (1 : Int32)), s8)
        ) else (
          j_X3_hoursUntilOwned_107 F k25 ih x1 x2 x3 (x4 + (1 : Int32)) x5 x6 s8
        )
      ) else (
        j_X3_hoursUntilOwned_107 F k25 ih x1 x2 x3 x4 x5 x6 s4
      )
    ) else (
      j_X3_hoursUntilOwned_107 F k25 ih x1 x2 x3 x4 x5 x6 σ
    )
  )
  ) N
theorem lp_X3_hoursUntilOwned_33_s {F N : Nat} {k25 : Int32 → Int32 → Mem → Option (Int32 × Mem)} {x1 : Int32} {x2 : Int32} {x3 : Int32} {x5 : Int32} {x4 : Int32} {x6 : Int32} {σ : Mem} : lp_X3_hoursUntilOwned_33 F k25 x1 x2 x3 x5 (N + 1) x4 x6 σ = (
  if (24 : Int32) ≤ x6 then (
    k25 x4 (x5 + (-1 : Int32)) σ
  ) else (
    wt_chk x1 5 <|
    wt_chk x6 24 <|
    if (σ (1 + 5 + Int32.toNatClampNeg x1) (Int32.toNatClampNeg x6)) = (9 : Int32) then (
      wt_bnd (f_X0_pull F 1 x1 x6 σ) fun r3 s4 =>
      if r3 = x5 then (
        wt_chk x2 8 <|
        wt_lt (up2 s4 (24 + 18 + Int32.toNatClampNeg x1) (Int32.toNatClampNeg x2) ((s4 (24 + 18 + Int32.toNatClampNeg x1) (Int32.toNatClampNeg x2)) + x5)) fun s6 =>
        wt_bnd (f_X0_holder F 24 x2 x3 s6) fun r7 s8 =>
        if r7 = x1 then (
          some ((x4 + (1 : Int32)), s8)
        ) else (
          j_X3_hoursUntilOwned_107 F k25 (lp_X3_hoursUntilOwned_33 F k25 x1 x2 x3 x5 N) x1 x2 x3 (x4 + (1 : Int32)) x5 x6 s8
        )
      ) else (
        j_X3_hoursUntilOwned_107 F k25 (lp_X3_hoursUntilOwned_33 F k25 x1 x2 x3 x5 N) x1 x2 x3 x4 x5 x6 s4
      )
    ) else (
      j_X3_hoursUntilOwned_107 F k25 (lp_X3_hoursUntilOwned_33 F k25 x1 x2 x3 x5 N) x1 x2 x3 x4 x5 x6 σ
    )
  )
  ) := rfl
noncomputable def lp_X3_hoursUntilOwned_25 (F : Nat) (x1 : Int32) (x2 : Int32) (x3 : Int32) : Nat → Int32 → Int32 → Mem → Option (Int32 × Mem) := fun N => Nat.rec (motive := fun _ => Int32 → Int32 → Mem → Option (Int32 × Mem)) (fun _ _ _ => none) (fun _ ih x4 x5 σ =>
  if x5 ≤ 0 then (
    some ((-9 : Int32), σ)
  ) else (
    lp_X3_hoursUntilOwned_33 F ih x1 x2 x3 x5 F x4 (0 : Int32) σ
  )
  ) N
theorem lp_X3_hoursUntilOwned_25_s {F N : Nat} {x1 : Int32} {x2 : Int32} {x3 : Int32} {x4 : Int32} {x5 : Int32} {σ : Mem} : lp_X3_hoursUntilOwned_25 F x1 x2 x3 (N + 1) x4 x5 σ = (
  if x5 ≤ 0 then (
    some ((-9 : Int32), σ)
  ) else (
    lp_X3_hoursUntilOwned_33 F (lp_X3_hoursUntilOwned_25 F x1 x2 x3 N) x1 x2 x3 x5 F x4 (0 : Int32) σ
  )
  ) := rfl
noncomputable def f_X3_hoursUntilOwned (F : Nat) (x1 : Int32) (x2 : Int32) (x3 : Int32) (σ : Mem) : Option (Int32 × Mem) :=
  wt_bnd (f_X0_takeFrom F 24 1 σ) fun r9 s10 =>
  wt_bnd (f_X0_reckon F 24 s10) fun r11 s12 =>
  lp_X3_hoursUntilOwned_25 F x1 x2 x3 F (0 : Int32) (10 : Int32) s12
theorem f_X3_hoursUntilOwned_e {F : Nat} {x1 : Int32} {x2 : Int32} {x3 : Int32} {σ : Mem} : f_X3_hoursUntilOwned F x1 x2 x3 σ = (
  wt_bnd (f_X0_takeFrom F 24 1 σ) fun r9 s10 =>
  wt_bnd (f_X0_reckon F 24 s10) fun r11 s12 =>
  lp_X3_hoursUntilOwned_25 F x1 x2 x3 F (0 : Int32) (10 : Int32) s12
  ) := rfl
noncomputable def j_X3_moreHours_83 (F : Nat) (σ : Mem) : Option (Int32 × Mem) :=
  some ((-9 : Int32), σ)
theorem j_X3_moreHours_83_e {F : Nat} {σ : Mem} : j_X3_moreHours_83 F σ = (
  some ((-9 : Int32), σ)
  ) := rfl
noncomputable def f_X3_moreHours (F : Nat) (x1 : Int32) (x2 : Int32) (x3 : Int32) (σ : Mem) : Option (Int32 × Mem) :=
  wt_bnd (f_X3_noLooker F x1 σ) fun r1 s2 =>
  wt_bnd (f_X3_noView F x2 s2) fun r3 s4 =>
  wt_bnd (f_X3_firstOf F r1 r3 s4) fun r5 s6 =>
  wt_bnd (f_X3_outside F x3 (1 : Int32) (999 : Int32) s6) fun r7 s8 =>
  wt_bnd (f_X3_firstOf F r5 r7 s8) fun r9 s10 =>
  if r9 = 0 then (
    wt_bnd (f_X0_reckon F 1 s10) fun r11 s12 =>
    wt_bnd (f_X0_holder F 1 x2 x3 s12) fun r13 s14 =>
    if r13 = x1 then (
      some ((0 : Int32), s14)
    ) else (
      wt_bnd (f_X0_timesShown F 1 x2 s14) fun r15 s16 =>
      if r15 = 0 then (
        j_X3_moreHours_83 F s16
      ) else (
        wt_chk x1 5 <|
        if (s16 (1 + 2) (Int32.toNatClampNeg x1)) = (2 : Int32) then (
          j_X3_moreHours_83 F s16
        ) else (
          wt_bnd (f_X3_hoursUntilOwned F x1 x2 x3 s16) fun r18 s19 =>
          some (r18, s19)
        )
      )
    )
  ) else (
    wt_bnd (f_X3_refuse F r9 s10) fun r20 s21 =>
    some (r20, s21)
  )
theorem f_X3_moreHours_e {F : Nat} {x1 : Int32} {x2 : Int32} {x3 : Int32} {σ : Mem} : f_X3_moreHours F x1 x2 x3 σ = (
  wt_bnd (f_X3_noLooker F x1 σ) fun r1 s2 =>
  wt_bnd (f_X3_noView F x2 s2) fun r3 s4 =>
  wt_bnd (f_X3_firstOf F r1 r3 s4) fun r5 s6 =>
  wt_bnd (f_X3_outside F x3 (1 : Int32) (999 : Int32) s6) fun r7 s8 =>
  wt_bnd (f_X3_firstOf F r5 r7 s8) fun r9 s10 =>
  if r9 = 0 then (
    wt_bnd (f_X0_reckon F 1 s10) fun r11 s12 =>
    wt_bnd (f_X0_holder F 1 x2 x3 s12) fun r13 s14 =>
    if r13 = x1 then (
      some ((0 : Int32), s14)
    ) else (
      wt_bnd (f_X0_timesShown F 1 x2 s14) fun r15 s16 =>
      if r15 = 0 then (
        j_X3_moreHours_83 F s16
      ) else (
        wt_chk x1 5 <|
        if (s16 (1 + 2) (Int32.toNatClampNeg x1)) = (2 : Int32) then (
          j_X3_moreHours_83 F s16
        ) else (
          wt_bnd (f_X3_hoursUntilOwned F x1 x2 x3 s16) fun r18 s19 =>
          some (r18, s19)
        )
      )
    )
  ) else (
    wt_bnd (f_X3_refuse F r9 s10) fun r20 s21 =>
    some (r20, s21)
  )
  ) := rfl
noncomputable def f_X3_wealthAt (F : Nat) (x1 : Int32) (x2 : Int32) (x3 : Int32) (x4 : Int32) (σ : Mem) : Option (Int32 × Mem) :=
  wt_bnd (f_X0_post F 24 x1 x2 x2 x3 σ) fun r1 s2 =>
  wt_bnd (f_X0_reckon F 24 s2) fun r3 s4 =>
  wt_bnd (f_X0_wealth F 24 x1 x4 s4) fun r5 s6 =>
  some (r5, s6)
theorem f_X3_wealthAt_e {F : Nat} {x1 : Int32} {x2 : Int32} {x3 : Int32} {x4 : Int32} {σ : Mem} : f_X3_wealthAt F x1 x2 x3 x4 σ = (
  wt_bnd (f_X0_post F 24 x1 x2 x2 x3 σ) fun r1 s2 =>
  wt_bnd (f_X0_reckon F 24 s2) fun r3 s4 =>
  wt_bnd (f_X0_wealth F 24 x1 x4 s4) fun r5 s6 =>
  some (r5, s6)
  ) := rfl
noncomputable def j_X3_bestPane_130 (F : Nat) (k71 : Int32 → Int32 → Int32 → Mem → Option (Int32 × Mem)) (x1 : Int32) (x2 : Int32) (x3 : Int32) (x4 : Int32) (x6 : Int32) (x7 : Int32) (x8 : Int32) (σ : Mem) : Option (Int32 × Mem) :=
  k71 x6 x7 (x8 + (1 : Int32)) σ
theorem j_X3_bestPane_130_e {F : Nat} {k71 : Int32 → Int32 → Int32 → Mem → Option (Int32 × Mem)} {x1 : Int32} {x2 : Int32} {x3 : Int32} {x4 : Int32} {x6 : Int32} {x7 : Int32} {x8 : Int32} {σ : Mem} : j_X3_bestPane_130 F k71 x1 x2 x3 x4 x6 x7 x8 σ = (
  k71 x6 x7 (x8 + (1 : Int32)) σ
  ) := rfl
noncomputable def j_X3_bestPane_102 (F : Nat) (k71 : Int32 → Int32 → Int32 → Mem → Option (Int32 × Mem)) (x1 : Int32) (x2 : Int32) (x3 : Int32) (x4 : Int32) (x6 : Int32) (x7 : Int32) (x8 : Int32) (t0 : Int32) (σ : Mem) : Option (Int32 × Mem) :=
  wt_bnd (f_X3_wealthAt F x1 x2 t0 x3 σ) fun r1 s2 =>
  if r1 ≤ x7 then (
    j_X3_bestPane_130 F k71 x1 x2 x3 x4 x6 x7 x8 s2
  ) else (
    j_X3_bestPane_130 F k71 x1 x2 x3 x4 t0 r1 x8 s2
  )
theorem j_X3_bestPane_102_e {F : Nat} {k71 : Int32 → Int32 → Int32 → Mem → Option (Int32 × Mem)} {x1 : Int32} {x2 : Int32} {x3 : Int32} {x4 : Int32} {x6 : Int32} {x7 : Int32} {x8 : Int32} {t0 : Int32} {σ : Mem} : j_X3_bestPane_102 F k71 x1 x2 x3 x4 x6 x7 x8 t0 σ = (
  wt_bnd (f_X3_wealthAt F x1 x2 t0 x3 σ) fun r1 s2 =>
  if r1 ≤ x7 then (
    j_X3_bestPane_130 F k71 x1 x2 x3 x4 x6 x7 x8 s2
  ) else (
    j_X3_bestPane_130 F k71 x1 x2 x3 x4 t0 r1 x8 s2
  )
  ) := rfl
noncomputable def lp_X3_bestPane_71 (F : Nat) (x1 : Int32) (x2 : Int32) (x3 : Int32) (x4 : Int32) : Nat → Int32 → Int32 → Int32 → Mem → Option (Int32 × Mem) := fun N => Nat.rec (motive := fun _ => Int32 → Int32 → Int32 → Mem → Option (Int32 × Mem)) (fun _ _ _ _ => none) (fun _ ih x6 x7 x8 σ =>
  if (σ 1 0) < x8 then (
    if x4 = 0 then (
      some (x6, σ)
    ) else (
      some (x7, σ)
    )
  ) else (
    if (σ 1 0) ≤ x8 then (
      j_X3_bestPane_102 F ih x1 x2 x3 x4 x6 x7 x8 (9 : Int32) σ
    ) else (
      j_X3_bestPane_102 F ih x1 x2 x3 x4 x6 x7 x8 x8 σ
    )
  )
  ) N
theorem lp_X3_bestPane_71_s {F N : Nat} {x1 : Int32} {x2 : Int32} {x3 : Int32} {x4 : Int32} {x6 : Int32} {x7 : Int32} {x8 : Int32} {σ : Mem} : lp_X3_bestPane_71 F x1 x2 x3 x4 (N + 1) x6 x7 x8 σ = (
  if (σ 1 0) < x8 then (
    if x4 = 0 then (
      some (x6, σ)
    ) else (
      some (x7, σ)
    )
  ) else (
    if (σ 1 0) ≤ x8 then (
      j_X3_bestPane_102 F (lp_X3_bestPane_71 F x1 x2 x3 x4 N) x1 x2 x3 x4 x6 x7 x8 (9 : Int32) σ
    ) else (
      j_X3_bestPane_102 F (lp_X3_bestPane_71 F x1 x2 x3 x4 N) x1 x2 x3 x4 x6 x7 x8 x8 σ
    )
  )
  ) := rfl
noncomputable def f_X3_bestPane (F : Nat) (x1 : Int32) (x2 : Int32) (x3 : Int32) (x4 : Int32) (σ : Mem) : Option (Int32 × Mem) :=
  wt_bnd (f_X3_noLooker F x1 σ) fun r3 s4 =>
  wt_bnd (f_X3_noHour F x2 s4) fun r5 s6 =>
  wt_bnd (f_X3_firstOf F r3 r5 s6) fun r7 s8 =>
  wt_bnd (f_X3_outside F x3 (0 : Int32) (999 : Int32) s8) fun r9 s10 =>
  wt_bnd (f_X3_firstOf F r7 r9 s10) fun r11 s12 =>
  wt_bnd (f_X3_notBelow F x4 (2 : Int32) s12) fun r13 s14 =>
  wt_bnd (f_X3_firstOf F r11 r13 s14) fun r15 s16 =>
  if r15 = 0 then (
    wt_bnd (f_X0_takeFrom F 24 1 s16) fun r17 s18 =>
    lp_X3_bestPane_71 F x1 x2 x3 x4 F (9 : Int32) (-1 : Int32) (0 : Int32) s18
  ) else (
    wt_bnd (f_X3_refuse F r15 s16) fun r19 s20 =>
    some (r19, s20)
  )
theorem f_X3_bestPane_e {F : Nat} {x1 : Int32} {x2 : Int32} {x3 : Int32} {x4 : Int32} {σ : Mem} : f_X3_bestPane F x1 x2 x3 x4 σ = (
  wt_bnd (f_X3_noLooker F x1 σ) fun r3 s4 =>
  wt_bnd (f_X3_noHour F x2 s4) fun r5 s6 =>
  wt_bnd (f_X3_firstOf F r3 r5 s6) fun r7 s8 =>
  wt_bnd (f_X3_outside F x3 (0 : Int32) (999 : Int32) s8) fun r9 s10 =>
  wt_bnd (f_X3_firstOf F r7 r9 s10) fun r11 s12 =>
  wt_bnd (f_X3_notBelow F x4 (2 : Int32) s12) fun r13 s14 =>
  wt_bnd (f_X3_firstOf F r11 r13 s14) fun r15 s16 =>
  if r15 = 0 then (
    wt_bnd (f_X0_takeFrom F 24 1 s16) fun r17 s18 =>
    lp_X3_bestPane_71 F x1 x2 x3 x4 F (9 : Int32) (-1 : Int32) (0 : Int32) s18
  ) else (
    wt_bnd (f_X3_refuse F r15 s16) fun r19 s20 =>
    some (r19, s20)
  )
  ) := rfl
noncomputable def j_X3_freeHours_140 (F : Nat) (k52 : Int32 → Int32 → Mem → Option (Int32 × Mem)) (x1 : Int32) (x2 : Int32) (x4 : Int32) (x5 : Int32) (x6 : Int32) (σ : Mem) : Option (Int32 × Mem) :=
  k52 x5 (x6 + (1 : Int32)) σ
theorem j_X3_freeHours_140_e {F : Nat} {k52 : Int32 → Int32 → Mem → Option (Int32 × Mem)} {x1 : Int32} {x2 : Int32} {x4 : Int32} {x5 : Int32} {x6 : Int32} {σ : Mem} : j_X3_freeHours_140 F k52 x1 x2 x4 x5 x6 σ = (
  k52 x5 (x6 + (1 : Int32)) σ
  ) := rfl
noncomputable def j_X3_freeHours_125 (F : Nat) (k52 : Int32 → Int32 → Mem → Option (Int32 × Mem)) (x1 : Int32) (x2 : Int32) (x4 : Int32) (x5 : Int32) (x6 : Int32) (x7 : Int32) (σ : Mem) : Option (Int32 × Mem) :=
  wt_bnd (f_X0_post F 24 x1 x6 x6 x7 σ) fun r1 s2 =>
  j_X3_freeHours_140 F k52 x1 x2 x4 x5 x6 s2
theorem j_X3_freeHours_125_e {F : Nat} {k52 : Int32 → Int32 → Mem → Option (Int32 × Mem)} {x1 : Int32} {x2 : Int32} {x4 : Int32} {x5 : Int32} {x6 : Int32} {x7 : Int32} {σ : Mem} : j_X3_freeHours_125 F k52 x1 x2 x4 x5 x6 x7 σ = (
  wt_bnd (f_X0_post F 24 x1 x6 x6 x7 σ) fun r1 s2 =>
  j_X3_freeHours_140 F k52 x1 x2 x4 x5 x6 s2
  ) := rfl
noncomputable def lp_X3_freeHours_52 (F : Nat) (x1 : Int32) (x2 : Int32) (x4 : Int32) : Nat → Int32 → Int32 → Mem → Option (Int32 × Mem) := fun N => Nat.rec (motive := fun _ => Int32 → Int32 → Mem → Option (Int32 × Mem)) (fun _ _ _ => none) (fun _ ih x5 x6 σ =>
  if (24 : Int32) ≤ x6 then (
    some (x5, σ)
  ) else (
    wt_chk x1 5 <|
    wt_chk x6 24 <|
    wt_lt (σ (1 + 5 + Int32.toNatClampNeg x1) (Int32.toNatClampNeg x6)) fun z5 =>
    if z5 = (9 : Int32) then (
      j_X3_freeHours_140 F ih x1 x2 x4 x5 x6 σ
    ) else (
      wt_bnd (f_X0_post F 24 x1 x6 x6 (9 : Int32) σ) fun r6 s7 =>
      wt_bnd (f_X0_reckon F 24 s7) fun r8 s9 =>
      wt_bnd (f_X0_holdings F 24 x1 x2 s9) fun r10 s11 =>
      if r10 = x4 then (
        wt_lt (x5 ||| ((1 : Int32) <<< (x6 &&& 31))) fun z12 =>
        j_X3_freeHours_125 F ih x1 x2 x4 z12 x6 z5 s11
      ) else (
        j_X3_freeHours_125 F ih x1 x2 x4 x5 x6 z5 s11
      )
    )
  )
  ) N
theorem lp_X3_freeHours_52_s {F N : Nat} {x1 : Int32} {x2 : Int32} {x4 : Int32} {x5 : Int32} {x6 : Int32} {σ : Mem} : lp_X3_freeHours_52 F x1 x2 x4 (N + 1) x5 x6 σ = (
  if (24 : Int32) ≤ x6 then (
    some (x5, σ)
  ) else (
    wt_chk x1 5 <|
    wt_chk x6 24 <|
    wt_lt (σ (1 + 5 + Int32.toNatClampNeg x1) (Int32.toNatClampNeg x6)) fun z5 =>
    if z5 = (9 : Int32) then (
      j_X3_freeHours_140 F (lp_X3_freeHours_52 F x1 x2 x4 N) x1 x2 x4 x5 x6 σ
    ) else (
      wt_bnd (f_X0_post F 24 x1 x6 x6 (9 : Int32) σ) fun r6 s7 =>
      wt_bnd (f_X0_reckon F 24 s7) fun r8 s9 =>
      wt_bnd (f_X0_holdings F 24 x1 x2 s9) fun r10 s11 =>
      if r10 = x4 then (
        wt_lt (x5 ||| ((1 : Int32) <<< (x6 &&& 31))) fun z12 =>
        j_X3_freeHours_125 F (lp_X3_freeHours_52 F x1 x2 x4 N) x1 x2 x4 z12 x6 z5 s11
      ) else (
        j_X3_freeHours_125 F (lp_X3_freeHours_52 F x1 x2 x4 N) x1 x2 x4 x5 x6 z5 s11
      )
    )
  )
  ) := rfl
noncomputable def f_X3_freeHours (F : Nat) (x1 : Int32) (x2 : Int32) (σ : Mem) : Option (Int32 × Mem) :=
  wt_bnd (f_X3_noLookerFar F x1 x2 σ) fun r13 s14 =>
  if r13 = 0 then (
    wt_bnd (f_X0_reckon F 1 s14) fun r15 s16 =>
    wt_bnd (f_X0_takeFrom F 24 1 s16) fun r17 s18 =>
    wt_bnd (f_X0_holdings F 1 x1 x2 s18) fun r19 s20 =>
    lp_X3_freeHours_52 F x1 x2 r19 F (0 : Int32) (0 : Int32) s20
  ) else (
    wt_bnd (f_X3_refuse F r13 s14) fun r21 s22 =>
    some (r21, s22)
  )
theorem f_X3_freeHours_e {F : Nat} {x1 : Int32} {x2 : Int32} {σ : Mem} : f_X3_freeHours F x1 x2 σ = (
  wt_bnd (f_X3_noLookerFar F x1 x2 σ) fun r13 s14 =>
  if r13 = 0 then (
    wt_bnd (f_X0_reckon F 1 s14) fun r15 s16 =>
    wt_bnd (f_X0_takeFrom F 24 1 s16) fun r17 s18 =>
    wt_bnd (f_X0_holdings F 1 x1 x2 s18) fun r19 s20 =>
    lp_X3_freeHours_52 F x1 x2 r19 F (0 : Int32) (0 : Int32) s20
  ) else (
    wt_bnd (f_X3_refuse F r13 s14) fun r21 s22 =>
    some (r21, s22)
  )
  ) := rfl
noncomputable def j_X3_cover_60 (F : Nat) (k22 : Int32 → Int32 → Mem → Option (Int32 × Mem)) (x1 : Int32) (x2 : Int32) (x3 : Int32) (σ : Mem) : Option (Int32 × Mem) :=
  k22 x2 (x3 + (1 : Int32)) σ
theorem j_X3_cover_60_e {F : Nat} {k22 : Int32 → Int32 → Mem → Option (Int32 × Mem)} {x1 : Int32} {x2 : Int32} {x3 : Int32} {σ : Mem} : j_X3_cover_60 F k22 x1 x2 x3 σ = (
  k22 x2 (x3 + (1 : Int32)) σ
  ) := rfl
noncomputable def lp_X3_cover_22 (F : Nat) (x1 : Int32) : Nat → Int32 → Int32 → Mem → Option (Int32 × Mem) := fun N => Nat.rec (motive := fun _ => Int32 → Int32 → Mem → Option (Int32 × Mem)) (fun _ _ _ => none) (fun _ ih x2 x3 σ =>
  if ((1 : Int32) <<< ((σ 1 0) &&& 31)) ≤ x3 then (
    some (x2, σ)
  ) else (
    wt_bnd (f_J6_bitCount_0f7a4 F x3 σ) fun r1 s2 =>
    wt_bnd (f_J6_bitCount_0f7a4 F x2 s2) fun r3 s4 =>
    if r3 ≤ r1 then (
      j_X3_cover_60 F ih x1 x2 x3 s4
    ) else (
      wt_bnd (f_X0_shownBy F 1 x3 s4) fun r5 s6 =>
      if r5 = x1 then (
        j_X3_cover_60 F ih x1 x3 x3 s6
      ) else (
        j_X3_cover_60 F ih x1 x2 x3 s6
      )
    )
  )
  ) N
theorem lp_X3_cover_22_s {F N : Nat} {x1 : Int32} {x2 : Int32} {x3 : Int32} {σ : Mem} : lp_X3_cover_22 F x1 (N + 1) x2 x3 σ = (
  if ((1 : Int32) <<< ((σ 1 0) &&& 31)) ≤ x3 then (
    some (x2, σ)
  ) else (
    wt_bnd (f_J6_bitCount_0f7a4 F x3 σ) fun r1 s2 =>
    wt_bnd (f_J6_bitCount_0f7a4 F x2 s2) fun r3 s4 =>
    if r3 ≤ r1 then (
      j_X3_cover_60 F (lp_X3_cover_22 F x1 N) x1 x2 x3 s4
    ) else (
      wt_bnd (f_X0_shownBy F 1 x3 s4) fun r5 s6 =>
      if r5 = x1 then (
        j_X3_cover_60 F (lp_X3_cover_22 F x1 N) x1 x3 x3 s6
      ) else (
        j_X3_cover_60 F (lp_X3_cover_22 F x1 N) x1 x2 x3 s6
      )
    )
  )
  ) := rfl
noncomputable def f_X3_cover (F : Nat) (σ : Mem) : Option (Int32 × Mem) :=
  wt_bnd (f_X0_allShown F 1 σ) fun r7 s8 =>
  wt_lt (((1 : Int32) <<< ((s8 1 0) &&& 31)) - (1 : Int32)) fun z9 =>
  lp_X3_cover_22 F r7 F z9 (0 : Int32) s8
theorem f_X3_cover_e {F : Nat} {σ : Mem} : f_X3_cover F σ = (
  wt_bnd (f_X0_allShown F 1 σ) fun r7 s8 =>
  wt_lt (((1 : Int32) <<< ((s8 1 0) &&& 31)) - (1 : Int32)) fun z9 =>
  lp_X3_cover_22 F r7 F z9 (0 : Int32) s8
  ) := rfl
noncomputable def f_X3_shown (F : Nat) (x1 : Int32) (σ : Mem) : Option (Int32 × Mem) :=
  wt_bnd (f_X0_isView F x1 σ) fun r1 s2 =>
  if r1 = 0 then (
    wt_bnd (f_X3_refuse F (-1 : Int32) s2) fun r5 s6 =>
    some (r5, s6)
  ) else (
    wt_bnd (f_X0_timesShown F 1 x1 s2) fun r3 s4 =>
    some (r3, s4)
  )
theorem f_X3_shown_e {F : Nat} {x1 : Int32} {σ : Mem} : f_X3_shown F x1 σ = (
  wt_bnd (f_X0_isView F x1 σ) fun r1 s2 =>
  if r1 = 0 then (
    wt_bnd (f_X3_refuse F (-1 : Int32) s2) fun r5 s6 =>
    some (r5, s6)
  ) else (
    wt_bnd (f_X0_timesShown F 1 x1 s2) fun r3 s4 =>
    some (r3, s4)
  )
  ) := rfl
noncomputable def f_X3_wealthWalled (F : Nat) (x1 : Int32) (x2 : Int32) (x3 : Int32) (x4 : Int32) (σ : Mem) : Option (Int32 × Mem) :=
  wt_bnd (f_X0_flip F 24 x2 x3 σ) fun r1 s2 =>
  wt_bnd (f_X0_reckon F 24 s2) fun r3 s4 =>
  wt_bnd (f_X0_wealth F 24 x1 x4 s4) fun r5 s6 =>
  wt_bnd (f_X0_flip F 24 x2 x3 s6) fun r7 s8 =>
  some (r5, s8)
theorem f_X3_wealthWalled_e {F : Nat} {x1 : Int32} {x2 : Int32} {x3 : Int32} {x4 : Int32} {σ : Mem} : f_X3_wealthWalled F x1 x2 x3 x4 σ = (
  wt_bnd (f_X0_flip F 24 x2 x3 σ) fun r1 s2 =>
  wt_bnd (f_X0_reckon F 24 s2) fun r3 s4 =>
  wt_bnd (f_X0_wealth F 24 x1 x4 s4) fun r5 s6 =>
  wt_bnd (f_X0_flip F 24 x2 x3 s6) fun r7 s8 =>
  some (r5, s8)
  ) := rfl
noncomputable def j_X3_walls_143 (F : Nat) (k67 : Int32 → Int32 → Int32 → Mem → Option (Int32 × Mem)) (k82 : Int32 → Int32 → Int32 → Mem → Option (Int32 × Mem)) (x1 : Int32) (x2 : Int32) (x3 : Int32) (x5 : Int32) (x6 : Int32) (x7 : Int32) (x8 : Int32) (x9 : Int32) (σ : Mem) : Option (Int32 × Mem) :=
  k82 x6 x7 (x9 + (1 : Int32)) σ
theorem j_X3_walls_143_e {F : Nat} {k67 : Int32 → Int32 → Int32 → Mem → Option (Int32 × Mem)} {k82 : Int32 → Int32 → Int32 → Mem → Option (Int32 × Mem)} {x1 : Int32} {x2 : Int32} {x3 : Int32} {x5 : Int32} {x6 : Int32} {x7 : Int32} {x8 : Int32} {x9 : Int32} {σ : Mem} : j_X3_walls_143 F k67 k82 x1 x2 x3 x5 x6 x7 x8 x9 σ = (
  k82 x6 x7 (x9 + (1 : Int32)) σ
  ) := rfl
noncomputable def j_X3_walls_120 (F : Nat) (k67 : Int32 → Int32 → Int32 → Mem → Option (Int32 × Mem)) (k82 : Int32 → Int32 → Int32 → Mem → Option (Int32 × Mem)) (x1 : Int32) (x2 : Int32) (x3 : Int32) (x5 : Int32) (x6 : Int32) (x7 : Int32) (x8 : Int32) (x9 : Int32) (t0 : Int32) (σ : Mem) : Option (Int32 × Mem) :=
  if t0 ≤ x7 then (
    j_X3_walls_143 F k67 k82 x1 x2 x3 x5 x6 x7 x8 x9 σ
  ) else (
    wt_lt (((10 : Int32) * x8) + x9) fun z1 =>
    j_X3_walls_143 F k67 k82 x1 x2 x3 x5 z1 t0 x8 x9 σ
  )
theorem j_X3_walls_120_e {F : Nat} {k67 : Int32 → Int32 → Int32 → Mem → Option (Int32 × Mem)} {k82 : Int32 → Int32 → Int32 → Mem → Option (Int32 × Mem)} {x1 : Int32} {x2 : Int32} {x3 : Int32} {x5 : Int32} {x6 : Int32} {x7 : Int32} {x8 : Int32} {x9 : Int32} {t0 : Int32} {σ : Mem} : j_X3_walls_120 F k67 k82 x1 x2 x3 x5 x6 x7 x8 x9 t0 σ = (
  if t0 ≤ x7 then (
    j_X3_walls_143 F k67 k82 x1 x2 x3 x5 x6 x7 x8 x9 σ
  ) else (
    wt_lt (((10 : Int32) * x8) + x9) fun z1 =>
    j_X3_walls_143 F k67 k82 x1 x2 x3 x5 z1 t0 x8 x9 σ
  )
  ) := rfl
noncomputable def lp_X3_walls_82 (F : Nat) (k67 : Int32 → Int32 → Int32 → Mem → Option (Int32 × Mem)) (x1 : Int32) (x2 : Int32) (x3 : Int32) (x5 : Int32) (x8 : Int32) : Nat → Int32 → Int32 → Int32 → Mem → Option (Int32 × Mem) := fun N => Nat.rec (motive := fun _ => Int32 → Int32 → Int32 → Mem → Option (Int32 × Mem)) (fun _ _ _ _ => none) (fun _ ih x6 x7 x9 σ =>
  if (8 : Int32) ≤ x9 then (
    k67 x6 x7 (x8 + (1 : Int32)) σ
  ) else (
    wt_bnd (f_X0_shows F 1 x8 x9 σ) fun r2 s3 =>
    if r2 = 0 then (
      j_X3_walls_120 F k67 ih x1 x2 x3 x5 x6 x7 x8 x9 (0 : Int32) s3
    ) else (
      wt_bnd (f_X3_wealthWalled F x1 x8 x9 x2 s3) fun r4 s5 =>
      j_X3_walls_120 F k67 ih x1 x2 x3 x5 x6 x7 x8 x9 (x5 - r4) s5
    )
  )
  ) N
theorem lp_X3_walls_82_s {F N : Nat} {k67 : Int32 → Int32 → Int32 → Mem → Option (Int32 × Mem)} {x1 : Int32} {x2 : Int32} {x3 : Int32} {x5 : Int32} {x8 : Int32} {x6 : Int32} {x7 : Int32} {x9 : Int32} {σ : Mem} : lp_X3_walls_82 F k67 x1 x2 x3 x5 x8 (N + 1) x6 x7 x9 σ = (
  if (8 : Int32) ≤ x9 then (
    k67 x6 x7 (x8 + (1 : Int32)) σ
  ) else (
    wt_bnd (f_X0_shows F 1 x8 x9 σ) fun r2 s3 =>
    if r2 = 0 then (
      j_X3_walls_120 F k67 (lp_X3_walls_82 F k67 x1 x2 x3 x5 x8 N) x1 x2 x3 x5 x6 x7 x8 x9 (0 : Int32) s3
    ) else (
      wt_bnd (f_X3_wealthWalled F x1 x8 x9 x2 s3) fun r4 s5 =>
      j_X3_walls_120 F k67 (lp_X3_walls_82 F k67 x1 x2 x3 x5 x8 N) x1 x2 x3 x5 x6 x7 x8 x9 (x5 - r4) s5
    )
  )
  ) := rfl
noncomputable def j_X3_walls_166 (F : Nat) (x6 : Int32) (σ : Mem) : Option (Int32 × Mem) :=
  some (x6, σ)
theorem j_X3_walls_166_e {F : Nat} {x6 : Int32} {σ : Mem} : j_X3_walls_166 F x6 σ = (
  some (x6, σ)
  ) := rfl
noncomputable def lp_X3_walls_67 (F : Nat) (x1 : Int32) (x2 : Int32) (x3 : Int32) (x5 : Int32) : Nat → Int32 → Int32 → Int32 → Mem → Option (Int32 × Mem) := fun N => Nat.rec (motive := fun _ => Int32 → Int32 → Int32 → Mem → Option (Int32 × Mem)) (fun _ _ _ _ => none) (fun _ ih x6 x7 x8 σ =>
  if (σ 1 0) ≤ x8 then (
    if x3 = 0 then (
      j_X3_walls_166 F x6 σ
    ) else (
      if x6 = (-9 : Int32) then (
        j_X3_walls_166 F x6 σ
      ) else (
        some (x7, σ)
      )
    )
  ) else (
    lp_X3_walls_82 F ih x1 x2 x3 x5 x8 F x6 x7 (0 : Int32) σ
  )
  ) N
theorem lp_X3_walls_67_s {F N : Nat} {x1 : Int32} {x2 : Int32} {x3 : Int32} {x5 : Int32} {x6 : Int32} {x7 : Int32} {x8 : Int32} {σ : Mem} : lp_X3_walls_67 F x1 x2 x3 x5 (N + 1) x6 x7 x8 σ = (
  if (σ 1 0) ≤ x8 then (
    if x3 = 0 then (
      j_X3_walls_166 F x6 σ
    ) else (
      if x6 = (-9 : Int32) then (
        j_X3_walls_166 F x6 σ
      ) else (
        some (x7, σ)
      )
    )
  ) else (
    lp_X3_walls_82 F (lp_X3_walls_67 F x1 x2 x3 x5 N) x1 x2 x3 x5 x8 F x6 x7 (0 : Int32) σ
  )
  ) := rfl
noncomputable def f_X3_walls (F : Nat) (x1 : Int32) (x2 : Int32) (x3 : Int32) (σ : Mem) : Option (Int32 × Mem) :=
  wt_bnd (f_X3_noLookerFar F x1 x2 σ) fun r6 s7 =>
  wt_bnd (f_X3_notBelow F x3 (2 : Int32) s7) fun r8 s9 =>
  wt_bnd (f_X3_firstOf F r6 r8 s9) fun r10 s11 =>
  if r10 = 0 then (
    wt_bnd (f_X0_reckon F 1 s11) fun r12 s13 =>
    wt_bnd (f_X0_takeFrom F 24 1 s13) fun r14 s15 =>
    wt_bnd (f_X0_wealth F 1 x1 x2 s15) fun r16 s17 =>
    lp_X3_walls_67 F x1 x2 x3 r16 F (-9 : Int32) (0 : Int32) (0 : Int32) s17
  ) else (
    wt_bnd (f_X3_refuse F r10 s11) fun r18 s19 =>
    some (r18, s19)
  )
theorem f_X3_walls_e {F : Nat} {x1 : Int32} {x2 : Int32} {x3 : Int32} {σ : Mem} : f_X3_walls F x1 x2 x3 σ = (
  wt_bnd (f_X3_noLookerFar F x1 x2 σ) fun r6 s7 =>
  wt_bnd (f_X3_notBelow F x3 (2 : Int32) s7) fun r8 s9 =>
  wt_bnd (f_X3_firstOf F r6 r8 s9) fun r10 s11 =>
  if r10 = 0 then (
    wt_bnd (f_X0_reckon F 1 s11) fun r12 s13 =>
    wt_bnd (f_X0_takeFrom F 24 1 s13) fun r14 s15 =>
    wt_bnd (f_X0_wealth F 1 x1 x2 s15) fun r16 s17 =>
    lp_X3_walls_67 F x1 x2 x3 r16 F (-9 : Int32) (0 : Int32) (0 : Int32) s17
  ) else (
    wt_bnd (f_X3_refuse F r10 s11) fun r18 s19 =>
    some (r18, s19)
  )
  ) := rfl
noncomputable def j_X3_commonDivisor_45 (F : Nat) (y4 : Int64) (σ : Mem) : Option (Int64 × Mem) :=
  some (y4, σ)
theorem j_X3_commonDivisor_45_e {F : Nat} {y4 : Int64} {σ : Mem} : j_X3_commonDivisor_45 F y4 σ = (
  some (y4, σ)
  ) := rfl
noncomputable def lp_X3_commonDivisor_9 (F : Nat) : Nat → Int64 → Int64 → Int32 → Mem → Option (Int64 × Mem) := fun N => Nat.rec (motive := fun _ => Int64 → Int64 → Int32 → Mem → Option (Int64 × Mem)) (fun _ _ _ _ => none) (fun _ ih y4 y6 x8 σ =>
  if (200 : Int32) ≤ x8 then (
    j_X3_commonDivisor_45 F y4 σ
  ) else (
    if (lg_cmp y6 (0 : Int64)) = 0 then (
      j_X3_commonDivisor_45 F y4 σ
    ) else (
      wt_nzl y6 <|
      ih y6 (y4 - y4 / y6 * y6) (x8 + (1 : Int32)) σ
    )
  )
  ) N
theorem lp_X3_commonDivisor_9_s {F N : Nat} {y4 : Int64} {y6 : Int64} {x8 : Int32} {σ : Mem} : lp_X3_commonDivisor_9 F (N + 1) y4 y6 x8 σ = (
  if (200 : Int32) ≤ x8 then (
    j_X3_commonDivisor_45 F y4 σ
  ) else (
    if (lg_cmp y6 (0 : Int64)) = 0 then (
      j_X3_commonDivisor_45 F y4 σ
    ) else (
      wt_nzl y6 <|
      (lp_X3_commonDivisor_9 F N) y6 (y4 - y4 / y6 * y6) (x8 + (1 : Int32)) σ
    )
  )
  ) := rfl
noncomputable def f_X3_commonDivisor (F : Nat) (y0 : Int64) (y2 : Int64) (σ : Mem) : Option (Int64 × Mem) :=
  lp_X3_commonDivisor_9 F F y0 y2 (0 : Int32) σ
theorem f_X3_commonDivisor_e {F : Nat} {y0 : Int64} {y2 : Int64} {σ : Mem} : f_X3_commonDivisor F y0 y2 σ = (
  lp_X3_commonDivisor_9 F F y0 y2 (0 : Int32) σ
  ) := rfl
noncomputable def j_X3_fraction_12 (F : Nat) (x4 : Int32) (σ : Mem) : Option (Int64 × Mem) :=
  if x4 = 0 then (
    some ((0 : Int64), σ)
  ) else (
    some ((1 : Int64), σ)
  )
theorem j_X3_fraction_12_e {F : Nat} {x4 : Int32} {σ : Mem} : j_X3_fraction_12 F x4 σ = (
  if x4 = 0 then (
    some ((0 : Int64), σ)
  ) else (
    some ((1 : Int64), σ)
  )
  ) := rfl
noncomputable def f_X3_fraction (F : Nat) (y0 : Int64) (y2 : Int64) (x4 : Int32) (σ : Mem) : Option (Int64 × Mem) :=
  if (lg_cmp y0 (0 : Int64)) ≤ 0 then (
    j_X3_fraction_12 F x4 σ
  ) else (
    if 0 < (lg_cmp y2 (0 : Int64)) then (
      wt_bnd (f_X3_commonDivisor F y0 y2 σ) fun r1 s2 =>
      if 0 < (lg_cmp r1 (0 : Int64)) then (
        if x4 = 0 then (
          wt_nzl r1 <|
          some ((y0 / r1), s2)
        ) else (
          wt_nzl r1 <|
          some ((y2 / r1), s2)
        )
      ) else (
        if x4 = 0 then (
          some (y0, s2)
        ) else (
          some (y2, s2)
        )
      )
    ) else (
      j_X3_fraction_12 F x4 σ
    )
  )
theorem f_X3_fraction_e {F : Nat} {y0 : Int64} {y2 : Int64} {x4 : Int32} {σ : Mem} : f_X3_fraction F y0 y2 x4 σ = (
  if (lg_cmp y0 (0 : Int64)) ≤ 0 then (
    j_X3_fraction_12 F x4 σ
  ) else (
    if 0 < (lg_cmp y2 (0 : Int64)) then (
      wt_bnd (f_X3_commonDivisor F y0 y2 σ) fun r1 s2 =>
      if 0 < (lg_cmp r1 (0 : Int64)) then (
        if x4 = 0 then (
          wt_nzl r1 <|
          some ((y0 / r1), s2)
        ) else (
          wt_nzl r1 <|
          some ((y2 / r1), s2)
        )
      ) else (
        if x4 = 0 then (
          some (y0, s2)
        ) else (
          some (y2, s2)
        )
      )
    ) else (
      j_X3_fraction_12 F x4 σ
    )
  )
  ) := rfl
noncomputable def lp_X3_share_40 (F : Nat) (x1 : Int32) (x2 : Int32) (x3 : Int32) : Nat → Int64 → Int32 → Mem → Option (Int64 × Mem) := fun N => Nat.rec (motive := fun _ => Int64 → Int32 → Mem → Option (Int64 × Mem)) (fun _ _ _ => none) (fun _ ih y5 x7 σ =>
  if (σ 1 2) ≤ x7 then (
    wt_chk x1 5 <|
    wt_chk x2 8 <|
    wt_bnd (f_X3_fraction F (Int32.toInt64 (σ (1 + 11 + Int32.toNatClampNeg x1) (Int32.toNatClampNeg x2))) y5 x3 σ) fun r3 s4 =>
    some (r3, s4)
  ) else (
    wt_chk x7 5 <|
    wt_chk x2 8 <|
    wt_lt (y5 + (Int32.toInt64 (σ (1 + 11 + Int32.toNatClampNeg x7) (Int32.toNatClampNeg x2)))) fun z7 =>
    ih z7 (x7 + (1 : Int32)) σ
  )
  ) N
theorem lp_X3_share_40_s {F N : Nat} {x1 : Int32} {x2 : Int32} {x3 : Int32} {y5 : Int64} {x7 : Int32} {σ : Mem} : lp_X3_share_40 F x1 x2 x3 (N + 1) y5 x7 σ = (
  if (σ 1 2) ≤ x7 then (
    wt_chk x1 5 <|
    wt_chk x2 8 <|
    wt_bnd (f_X3_fraction F (Int32.toInt64 (σ (1 + 11 + Int32.toNatClampNeg x1) (Int32.toNatClampNeg x2))) y5 x3 σ) fun r3 s4 =>
    some (r3, s4)
  ) else (
    wt_chk x7 5 <|
    wt_chk x2 8 <|
    wt_lt (y5 + (Int32.toInt64 (σ (1 + 11 + Int32.toNatClampNeg x7) (Int32.toNatClampNeg x2)))) fun z7 =>
    (lp_X3_share_40 F x1 x2 x3 N) z7 (x7 + (1 : Int32)) σ
  )
  ) := rfl
noncomputable def f_X3_share (F : Nat) (x1 : Int32) (x2 : Int32) (x3 : Int32) (σ : Mem) : Option (Int64 × Mem) :=
  wt_bnd (f_X3_noLooker F x1 σ) fun r8 s9 =>
  wt_bnd (f_X3_noView F x2 s9) fun r10 s11 =>
  wt_bnd (f_X3_firstOf F r8 r10 s11) fun r12 s13 =>
  wt_bnd (f_X3_notBelow F x3 (2 : Int32) s13) fun r14 s15 =>
  wt_bnd (f_X3_firstOf F r12 r14 s15) fun r16 s17 =>
  if r16 = 0 then (
    lp_X3_share_40 F x1 x2 x3 F (0 : Int64) (0 : Int32) s17
  ) else (
    wt_bnd (f_X3_refuseLong F r16 s17) fun r18 s19 =>
    some (r18, s19)
  )
theorem f_X3_share_e {F : Nat} {x1 : Int32} {x2 : Int32} {x3 : Int32} {σ : Mem} : f_X3_share F x1 x2 x3 σ = (
  wt_bnd (f_X3_noLooker F x1 σ) fun r8 s9 =>
  wt_bnd (f_X3_noView F x2 s9) fun r10 s11 =>
  wt_bnd (f_X3_firstOf F r8 r10 s11) fun r12 s13 =>
  wt_bnd (f_X3_notBelow F x3 (2 : Int32) s13) fun r14 s15 =>
  wt_bnd (f_X3_firstOf F r12 r14 s15) fun r16 s17 =>
  if r16 = 0 then (
    lp_X3_share_40 F x1 x2 x3 F (0 : Int64) (0 : Int32) s17
  ) else (
    wt_bnd (f_X3_refuseLong F r16 s17) fun r18 s19 =>
    some (r18, s19)
  )
  ) := rfl
noncomputable def lp_X3_fillPays_42 (F : Nat) (k14 : Int32 → Mem → Option (Unit × Mem)) (x1 : Int32) (x2 : Int32) (x3 : Int32) (x4 : Int32) (x5 : Int32) : Nat → Int32 → Mem → Option (Unit × Mem) := fun N => Nat.rec (motive := fun _ => Int32 → Mem → Option (Unit × Mem)) (fun _ _ => none) (fun _ ih x6 σ =>
  if (σ 1 0) ≤ x6 then (
    k14 (x5 + (1 : Int32)) σ
  ) else (
    wt_bnd (f_X0_post F 24 x2 x3 x3 x6 σ) fun r1 s2 =>
    wt_bnd (f_X0_reckon F 24 s2) fun r3 s4 =>
    wt_chk x5 6 <|
    wt_bnd (f_X0_wealth F 24 x1 x4 s4) fun r6 s7 =>
    wt_chk x6 6 <|
    wt_lt (up2 s7 (88 + Int32.toNatClampNeg x5) (Int32.toNatClampNeg x6) r6) fun s9 =>
    wt_bnd (f_X0_wealth F 24 x2 x4 s9) fun r10 s11 =>
    wt_lt (up2 s11 (95 + Int32.toNatClampNeg x5) (Int32.toNatClampNeg x6) r10) fun s12 =>
    ih (x6 + (1 : Int32)) s12
  )
  ) N
theorem lp_X3_fillPays_42_s {F N : Nat} {k14 : Int32 → Mem → Option (Unit × Mem)} {x1 : Int32} {x2 : Int32} {x3 : Int32} {x4 : Int32} {x5 : Int32} {x6 : Int32} {σ : Mem} : lp_X3_fillPays_42 F k14 x1 x2 x3 x4 x5 (N + 1) x6 σ = (
  if (σ 1 0) ≤ x6 then (
    k14 (x5 + (1 : Int32)) σ
  ) else (
    wt_bnd (f_X0_post F 24 x2 x3 x3 x6 σ) fun r1 s2 =>
    wt_bnd (f_X0_reckon F 24 s2) fun r3 s4 =>
    wt_chk x5 6 <|
    wt_bnd (f_X0_wealth F 24 x1 x4 s4) fun r6 s7 =>
    wt_chk x6 6 <|
    wt_lt (up2 s7 (88 + Int32.toNatClampNeg x5) (Int32.toNatClampNeg x6) r6) fun s9 =>
    wt_bnd (f_X0_wealth F 24 x2 x4 s9) fun r10 s11 =>
    wt_lt (up2 s11 (95 + Int32.toNatClampNeg x5) (Int32.toNatClampNeg x6) r10) fun s12 =>
    (lp_X3_fillPays_42 F k14 x1 x2 x3 x4 x5 N) (x6 + (1 : Int32)) s12
  )
  ) := rfl
noncomputable def lp_X3_fillPays_14 (F : Nat) (x1 : Int32) (x2 : Int32) (x3 : Int32) (x4 : Int32) : Nat → Int32 → Mem → Option (Unit × Mem) := fun N => Nat.rec (motive := fun _ => Int32 → Mem → Option (Unit × Mem)) (fun _ _ => none) (fun _ ih x5 σ =>
  if (σ 1 0) ≤ x5 then (
    some ((), σ)
  ) else (
    wt_bnd (f_X0_post F 24 x1 x3 x3 x5 σ) fun r13 s14 =>
    lp_X3_fillPays_42 F ih x1 x2 x3 x4 x5 F (0 : Int32) s14
  )
  ) N
theorem lp_X3_fillPays_14_s {F N : Nat} {x1 : Int32} {x2 : Int32} {x3 : Int32} {x4 : Int32} {x5 : Int32} {σ : Mem} : lp_X3_fillPays_14 F x1 x2 x3 x4 (N + 1) x5 σ = (
  if (σ 1 0) ≤ x5 then (
    some ((), σ)
  ) else (
    wt_bnd (f_X0_post F 24 x1 x3 x3 x5 σ) fun r13 s14 =>
    lp_X3_fillPays_42 F (lp_X3_fillPays_14 F x1 x2 x3 x4 N) x1 x2 x3 x4 x5 F (0 : Int32) s14
  )
  ) := rfl
noncomputable def f_X3_fillPays (F : Nat) (x1 : Int32) (x2 : Int32) (x3 : Int32) (x4 : Int32) (σ : Mem) : Option (Unit × Mem) :=
  wt_bnd (f_X0_takeFrom F 24 1 σ) fun r15 s16 =>
  lp_X3_fillPays_14 F x1 x2 x3 x4 F (0 : Int32) s16
theorem f_X3_fillPays_e {F : Nat} {x1 : Int32} {x2 : Int32} {x3 : Int32} {x4 : Int32} {σ : Mem} : f_X3_fillPays F x1 x2 x3 x4 σ = (
  wt_bnd (f_X0_takeFrom F 24 1 σ) fun r15 s16 =>
  lp_X3_fillPays_14 F x1 x2 x3 x4 F (0 : Int32) s16
  ) := rfl
noncomputable def j_X3_bothContent_51 (F : Nat) (σ : Mem) : Option (Int32 × Mem) :=
  some ((0 : Int32), σ)
theorem j_X3_bothContent_51_e {F : Nat} {σ : Mem} : j_X3_bothContent_51 F σ = (
  some ((0 : Int32), σ)
  ) := rfl
noncomputable def lp_X3_bothContent_2 (F : Nat) (x1 : Int32) (x2 : Int32) : Nat → Int32 → Mem → Option (Int32 × Mem) := fun N => Nat.rec (motive := fun _ => Int32 → Mem → Option (Int32 × Mem)) (fun _ _ => none) (fun _ ih x3 σ =>
  if (σ 1 0) ≤ x3 then (
    some ((1 : Int32), σ)
  ) else (
    wt_chk x3 6 <|
    wt_chk x2 6 <|
    wt_chk x1 6 <|
    if (σ (88 + Int32.toNatClampNeg x1) (Int32.toNatClampNeg x2)) < (σ (88 + Int32.toNatClampNeg x3) (Int32.toNatClampNeg x2)) then (
      j_X3_bothContent_51 F σ
    ) else (
      if (σ (95 + Int32.toNatClampNeg x1) (Int32.toNatClampNeg x3)) ≤ (σ (95 + Int32.toNatClampNeg x1) (Int32.toNatClampNeg x2)) then (
        ih (x3 + (1 : Int32)) σ
      ) else (
        j_X3_bothContent_51 F σ
      )
    )
  )
  ) N
theorem lp_X3_bothContent_2_s {F N : Nat} {x1 : Int32} {x2 : Int32} {x3 : Int32} {σ : Mem} : lp_X3_bothContent_2 F x1 x2 (N + 1) x3 σ = (
  if (σ 1 0) ≤ x3 then (
    some ((1 : Int32), σ)
  ) else (
    wt_chk x3 6 <|
    wt_chk x2 6 <|
    wt_chk x1 6 <|
    if (σ (88 + Int32.toNatClampNeg x1) (Int32.toNatClampNeg x2)) < (σ (88 + Int32.toNatClampNeg x3) (Int32.toNatClampNeg x2)) then (
      j_X3_bothContent_51 F σ
    ) else (
      if (σ (95 + Int32.toNatClampNeg x1) (Int32.toNatClampNeg x3)) ≤ (σ (95 + Int32.toNatClampNeg x1) (Int32.toNatClampNeg x2)) then (
        (lp_X3_bothContent_2 F x1 x2 N) (x3 + (1 : Int32)) σ
      ) else (
        j_X3_bothContent_51 F σ
      )
    )
  )
  ) := rfl
noncomputable def f_X3_bothContent (F : Nat) (x1 : Int32) (x2 : Int32) (σ : Mem) : Option (Int32 × Mem) :=
  lp_X3_bothContent_2 F x1 x2 F (0 : Int32) σ
theorem f_X3_bothContent_e {F : Nat} {x1 : Int32} {x2 : Int32} {σ : Mem} : f_X3_bothContent F x1 x2 σ = (
  lp_X3_bothContent_2 F x1 x2 F (0 : Int32) σ
  ) := rfl
noncomputable def lp_X3_two_66 (F : Nat) (k51 : Int32 → Mem → Option (Int32 × Mem)) (x6 : Int32) : Nat → Int32 → Mem → Option (Int32 × Mem) := fun N => Nat.rec (motive := fun _ => Int32 → Mem → Option (Int32 × Mem)) (fun _ _ => none) (fun _ ih x7 σ =>
  if (σ 1 0) ≤ x7 then (
    k51 (x6 + (1 : Int32)) σ
  ) else (
    wt_bnd (f_X3_bothContent F x6 x7 σ) fun r1 s2 =>
    if r1 = 0 then (
      ih (x7 + (1 : Int32)) s2
    ) else (
      some ((((10 : Int32) * x6) + x7), s2)
    )
  )
  ) N
theorem lp_X3_two_66_s {F N : Nat} {k51 : Int32 → Mem → Option (Int32 × Mem)} {x6 : Int32} {x7 : Int32} {σ : Mem} : lp_X3_two_66 F k51 x6 (N + 1) x7 σ = (
  if (σ 1 0) ≤ x7 then (
    k51 (x6 + (1 : Int32)) σ
  ) else (
    wt_bnd (f_X3_bothContent F x6 x7 σ) fun r1 s2 =>
    if r1 = 0 then (
      (lp_X3_two_66 F k51 x6 N) (x7 + (1 : Int32)) s2
    ) else (
      some ((((10 : Int32) * x6) + x7), s2)
    )
  )
  ) := rfl
noncomputable def lp_X3_two_51 (F : Nat) : Nat → Int32 → Mem → Option (Int32 × Mem) := fun N => Nat.rec (motive := fun _ => Int32 → Mem → Option (Int32 × Mem)) (fun _ _ => none) (fun _ ih x6 σ =>
  if (σ 1 0) ≤ x6 then (
    some ((-9 : Int32), σ)
  ) else (
    lp_X3_two_66 F ih x6 F (0 : Int32) σ
  )
  ) N
theorem lp_X3_two_51_s {F N : Nat} {x6 : Int32} {σ : Mem} : lp_X3_two_51 F (N + 1) x6 σ = (
  if (σ 1 0) ≤ x6 then (
    some ((-9 : Int32), σ)
  ) else (
    lp_X3_two_66 F (lp_X3_two_51 F N) x6 F (0 : Int32) σ
  )
  ) := rfl
noncomputable def f_X3_two (F : Nat) (x1 : Int32) (x2 : Int32) (x3 : Int32) (x4 : Int32) (σ : Mem) : Option (Int32 × Mem) :=
  wt_bnd (f_X3_noPair F x1 x2 σ) fun r3 s4 =>
  wt_bnd (f_X3_noHour F x3 s4) fun r5 s6 =>
  wt_bnd (f_X3_firstOf F r3 r5 s6) fun r7 s8 =>
  wt_bnd (f_X3_outside F x4 (0 : Int32) (999 : Int32) s8) fun r9 s10 =>
  wt_bnd (f_X3_firstOf F r7 r9 s10) fun r11 s12 =>
  if r11 = 0 then (
    wt_bnd (f_X3_fillPays F x1 x2 x3 x4 s12) fun r13 s14 =>
    lp_X3_two_51 F F (0 : Int32) s14
  ) else (
    wt_bnd (f_X3_refuse F r11 s12) fun r15 s16 =>
    some (r15, s16)
  )
theorem f_X3_two_e {F : Nat} {x1 : Int32} {x2 : Int32} {x3 : Int32} {x4 : Int32} {σ : Mem} : f_X3_two F x1 x2 x3 x4 σ = (
  wt_bnd (f_X3_noPair F x1 x2 σ) fun r3 s4 =>
  wt_bnd (f_X3_noHour F x3 s4) fun r5 s6 =>
  wt_bnd (f_X3_firstOf F r3 r5 s6) fun r7 s8 =>
  wt_bnd (f_X3_outside F x4 (0 : Int32) (999 : Int32) s8) fun r9 s10 =>
  wt_bnd (f_X3_firstOf F r7 r9 s10) fun r11 s12 =>
  if r11 = 0 then (
    wt_bnd (f_X3_fillPays F x1 x2 x3 x4 s12) fun r13 s14 =>
    lp_X3_two_51 F F (0 : Int32) s14
  ) else (
    wt_bnd (f_X3_refuse F r11 s12) fun r15 s16 =>
    some (r15, s16)
  )
  ) := rfl
noncomputable def f_X3_inRow (F : Nat) (x0 : Int32) (σ : Mem) : Option (Int32 × Mem) :=
  if x0 = (-9 : Int32) then (
    some ((99 : Int32), σ)
  ) else (
    some (x0, σ)
  )
theorem f_X3_inRow_e {F : Nat} {x0 : Int32} {σ : Mem} : f_X3_inRow F x0 σ = (
  if x0 = (-9 : Int32) then (
    some ((99 : Int32), σ)
  ) else (
    some (x0, σ)
  )
  ) := rfl
noncomputable def j_X3_rowTells_45 (F : Nat) (σ : Mem) : Option (Int32 × Mem) :=
  some ((1 : Int32), σ)
theorem j_X3_rowTells_45_e {F : Nat} {σ : Mem} : j_X3_rowTells_45 F σ = (
  some ((1 : Int32), σ)
  ) := rfl
noncomputable def lp_X3_rowTells_2 (F : Nat) (x1 : Int32) : Nat → Int32 → Mem → Option (Int32 × Mem) := fun N => Nat.rec (motive := fun _ => Int32 → Mem → Option (Int32 × Mem)) (fun _ _ => none) (fun _ ih x2 σ =>
  if (σ 0 7) ≤ x2 then (
    j_X3_rowTells_45 F σ
  ) else (
    if (8 : Int32) ≤ x2 then (
      j_X3_rowTells_45 F σ
    ) else (
      wt_chk x2 12 <|
      wt_bnd (f_X0_holder F 24 x2 x1 σ) fun r2 s3 =>
      wt_bnd (f_X3_inRow F r2 s3) fun r4 s5 =>
      if (σ 85 (Int32.toNatClampNeg x2)) = r4 then (
        ih (x2 + (1 : Int32)) s5
      ) else (
        some ((0 : Int32), s5)
      )
    )
  )
  ) N
theorem lp_X3_rowTells_2_s {F N : Nat} {x1 : Int32} {x2 : Int32} {σ : Mem} : lp_X3_rowTells_2 F x1 (N + 1) x2 σ = (
  if (σ 0 7) ≤ x2 then (
    j_X3_rowTells_45 F σ
  ) else (
    if (8 : Int32) ≤ x2 then (
      j_X3_rowTells_45 F σ
    ) else (
      wt_chk x2 12 <|
      wt_bnd (f_X0_holder F 24 x2 x1 σ) fun r2 s3 =>
      wt_bnd (f_X3_inRow F r2 s3) fun r4 s5 =>
      if (σ 85 (Int32.toNatClampNeg x2)) = r4 then (
        (lp_X3_rowTells_2 F x1 N) (x2 + (1 : Int32)) s5
      ) else (
        some ((0 : Int32), s5)
      )
    )
  )
  ) := rfl
noncomputable def f_X3_rowTells (F : Nat) (x1 : Int32) (σ : Mem) : Option (Int32 × Mem) :=
  lp_X3_rowTells_2 F x1 F (0 : Int32) σ
theorem f_X3_rowTells_e {F : Nat} {x1 : Int32} {σ : Mem} : f_X3_rowTells F x1 σ = (
  lp_X3_rowTells_2 F x1 F (0 : Int32) σ
  ) := rfl
noncomputable def j_X3_whichLaw_65 (F : Nat) (k30 : Int32 → Int32 → Mem → Option (Int32 × Mem)) (x2 : Int32) (x3 : Int32) (σ : Mem) : Option (Int32 × Mem) :=
  k30 x2 (x3 + (1 : Int32)) σ
theorem j_X3_whichLaw_65_e {F : Nat} {k30 : Int32 → Int32 → Mem → Option (Int32 × Mem)} {x2 : Int32} {x3 : Int32} {σ : Mem} : j_X3_whichLaw_65 F k30 x2 x3 σ = (
  k30 x2 (x3 + (1 : Int32)) σ
  ) := rfl
noncomputable def lp_X3_whichLaw_30 (F : Nat) : Nat → Int32 → Int32 → Mem → Option (Int32 × Mem) := fun N => Nat.rec (motive := fun _ => Int32 → Int32 → Mem → Option (Int32 × Mem)) (fun _ _ _ => none) (fun _ ih x2 x3 σ =>
  if (3 : Int32) ≤ x3 then (
    some (x2, σ)
  ) else (
    wt_bnd (f_X0_rule F 24 x3 σ) fun r1 s2 =>
    wt_bnd (f_X0_reckon F 24 s2) fun r3 s4 =>
    wt_bnd (f_X3_rowTells F (0 : Int32) s4) fun r5 s6 =>
    if r5 = 0 then (
      j_X3_whichLaw_65 F ih x2 x3 s6
    ) else (
      wt_lt (x2 ||| ((1 : Int32) <<< (x3 &&& 31))) fun z7 =>
      j_X3_whichLaw_65 F ih z7 x3 s6
    )
  )
  ) N
theorem lp_X3_whichLaw_30_s {F N : Nat} {x2 : Int32} {x3 : Int32} {σ : Mem} : lp_X3_whichLaw_30 F (N + 1) x2 x3 σ = (
  if (3 : Int32) ≤ x3 then (
    some (x2, σ)
  ) else (
    wt_bnd (f_X0_rule F 24 x3 σ) fun r1 s2 =>
    wt_bnd (f_X0_reckon F 24 s2) fun r3 s4 =>
    wt_bnd (f_X3_rowTells F (0 : Int32) s4) fun r5 s6 =>
    if r5 = 0 then (
      j_X3_whichLaw_65 F (lp_X3_whichLaw_30 F N) x2 x3 s6
    ) else (
      wt_lt (x2 ||| ((1 : Int32) <<< (x3 &&& 31))) fun z7 =>
      j_X3_whichLaw_65 F (lp_X3_whichLaw_30 F N) z7 x3 s6
    )
  )
  ) := rfl
noncomputable def f_X3_whichLaw (F : Nat) (σ : Mem) : Option (Int32 × Mem) :=
  wt_bnd (f_X3_longRow F σ) fun r8 s9 =>
  if r8 = 0 then (
    wt_bnd (f_X0_takeFrom F 24 1 s9) fun r10 s11 =>
    lp_X3_whichLaw_30 F F (0 : Int32) (0 : Int32) s11
  ) else (
    wt_bnd (f_X3_refuse F r8 s9) fun r12 s13 =>
    some (r12, s13)
  )
theorem f_X3_whichLaw_e {F : Nat} {σ : Mem} : f_X3_whichLaw F σ = (
  wt_bnd (f_X3_longRow F σ) fun r8 s9 =>
  if r8 = 0 then (
    wt_bnd (f_X0_takeFrom F 24 1 s9) fun r10 s11 =>
    lp_X3_whichLaw_30 F F (0 : Int32) (0 : Int32) s11
  ) else (
    wt_bnd (f_X3_refuse F r8 s9) fun r12 s13 =>
    some (r12, s13)
  )
  ) := rfl
noncomputable def j_X3_whichKind_124 (F : Nat) (k64 : Int32 → Int32 → Mem → Option (Int32 × Mem)) (x1 : Int32) (x2 : Int32) (x3 : Int32) (x5 : Int32) (x6 : Int32) (x7 : Int32) (σ : Mem) : Option (Int32 × Mem) :=
  k64 x5 (x7 + (1 : Int32)) σ
theorem j_X3_whichKind_124_e {F : Nat} {k64 : Int32 → Int32 → Mem → Option (Int32 × Mem)} {x1 : Int32} {x2 : Int32} {x3 : Int32} {x5 : Int32} {x6 : Int32} {x7 : Int32} {σ : Mem} : j_X3_whichKind_124 F k64 x1 x2 x3 x5 x6 x7 σ = (
  k64 x5 (x7 + (1 : Int32)) σ
  ) := rfl
noncomputable def j_X3_whichKind_100 (F : Nat) (k64 : Int32 → Int32 → Mem → Option (Int32 × Mem)) (x1 : Int32) (x2 : Int32) (x3 : Int32) (x5 : Int32) (x6 : Int32) (x7 : Int32) (σ : Mem) : Option (Int32 × Mem) :=
  wt_bnd (f_X0_reckon F 24 σ) fun r1 s2 =>
  wt_bnd (f_X3_rowTells F x2 s2) fun r3 s4 =>
  if r3 = 0 then (
    j_X3_whichKind_124 F k64 x1 x2 x3 x5 x6 x7 s4
  ) else (
    wt_lt (x5 ||| ((1 : Int32) <<< (x7 &&& 31))) fun z5 =>
    j_X3_whichKind_124 F k64 x1 x2 x3 z5 x6 x7 s4
  )
theorem j_X3_whichKind_100_e {F : Nat} {k64 : Int32 → Int32 → Mem → Option (Int32 × Mem)} {x1 : Int32} {x2 : Int32} {x3 : Int32} {x5 : Int32} {x6 : Int32} {x7 : Int32} {σ : Mem} : j_X3_whichKind_100 F k64 x1 x2 x3 x5 x6 x7 σ = (
  wt_bnd (f_X0_reckon F 24 σ) fun r1 s2 =>
  wt_bnd (f_X3_rowTells F x2 s2) fun r3 s4 =>
  if r3 = 0 then (
    j_X3_whichKind_124 F k64 x1 x2 x3 x5 x6 x7 s4
  ) else (
    wt_lt (x5 ||| ((1 : Int32) <<< (x7 &&& 31))) fun z5 =>
    j_X3_whichKind_124 F k64 x1 x2 x3 z5 x6 x7 s4
  )
  ) := rfl
noncomputable def lp_X3_whichKind_64 (F : Nat) (x1 : Int32) (x2 : Int32) (x3 : Int32) (x6 : Int32) : Nat → Int32 → Int32 → Mem → Option (Int32 × Mem) := fun N => Nat.rec (motive := fun _ => Int32 → Int32 → Mem → Option (Int32 × Mem)) (fun _ _ _ => none) (fun _ ih x5 x7 σ =>
  if x6 < x7 then (
    some (x5, σ)
  ) else (
    if x3 = 0 then (
      wt_chk x1 5 <|
      wt_lt (up2 σ (24 + 2) (Int32.toNatClampNeg x1) x7) fun s9 =>
      j_X3_whichKind_100 F ih x1 x2 x3 x5 x6 x7 s9
    ) else (
      wt_chk x1 5 <|
      wt_lt (up2 σ (24 + 3) (Int32.toNatClampNeg x1) x7) fun s7 =>
      j_X3_whichKind_100 F ih x1 x2 x3 x5 x6 x7 s7
    )
  )
  ) N
theorem lp_X3_whichKind_64_s {F N : Nat} {x1 : Int32} {x2 : Int32} {x3 : Int32} {x6 : Int32} {x5 : Int32} {x7 : Int32} {σ : Mem} : lp_X3_whichKind_64 F x1 x2 x3 x6 (N + 1) x5 x7 σ = (
  if x6 < x7 then (
    some (x5, σ)
  ) else (
    if x3 = 0 then (
      wt_chk x1 5 <|
      wt_lt (up2 σ (24 + 2) (Int32.toNatClampNeg x1) x7) fun s9 =>
      j_X3_whichKind_100 F (lp_X3_whichKind_64 F x1 x2 x3 x6 N) x1 x2 x3 x5 x6 x7 s9
    ) else (
      wt_chk x1 5 <|
      wt_lt (up2 σ (24 + 3) (Int32.toNatClampNeg x1) x7) fun s7 =>
      j_X3_whichKind_100 F (lp_X3_whichKind_64 F x1 x2 x3 x6 N) x1 x2 x3 x5 x6 x7 s7
    )
  )
  ) := rfl
noncomputable def j_X3_whichKind_59 (F : Nat) (x1 : Int32) (x2 : Int32) (x3 : Int32) (x5 : Int32) (t0 : Int32) (σ : Mem) : Option (Int32 × Mem) :=
  lp_X3_whichKind_64 F x1 x2 x3 t0 F x5 (0 : Int32) σ
theorem j_X3_whichKind_59_e {F : Nat} {x1 : Int32} {x2 : Int32} {x3 : Int32} {x5 : Int32} {t0 : Int32} {σ : Mem} : j_X3_whichKind_59 F x1 x2 x3 x5 t0 σ = (
  lp_X3_whichKind_64 F x1 x2 x3 t0 F x5 (0 : Int32) σ
  ) := rfl
noncomputable def f_X3_whichKind (F : Nat) (x1 : Int32) (x2 : Int32) (x3 : Int32) (σ : Mem) : Option (Int32 × Mem) :=
  wt_bnd (f_X3_noLookerFar F x1 x2 σ) fun r10 s11 =>
  wt_bnd (f_X3_notBelow F x3 (2 : Int32) s11) fun r12 s13 =>
  wt_bnd (f_X3_longRow F s13) fun r14 s15 =>
  wt_bnd (f_X3_firstOf F r12 r14 s15) fun r16 s17 =>
  wt_bnd (f_X3_firstOf F r10 r16 s17) fun r18 s19 =>
  if r18 = 0 then (
    wt_bnd (f_X0_takeFrom F 24 1 s19) fun r20 s21 =>
    if x3 = 0 then (
      j_X3_whichKind_59 F x1 x2 x3 (0 : Int32) (5 : Int32) s21
    ) else (
      j_X3_whichKind_59 F x1 x2 x3 (0 : Int32) (9 : Int32) s21
    )
  ) else (
    wt_bnd (f_X3_refuse F r18 s19) fun r22 s23 =>
    some (r22, s23)
  )
theorem f_X3_whichKind_e {F : Nat} {x1 : Int32} {x2 : Int32} {x3 : Int32} {σ : Mem} : f_X3_whichKind F x1 x2 x3 σ = (
  wt_bnd (f_X3_noLookerFar F x1 x2 σ) fun r10 s11 =>
  wt_bnd (f_X3_notBelow F x3 (2 : Int32) s11) fun r12 s13 =>
  wt_bnd (f_X3_longRow F s13) fun r14 s15 =>
  wt_bnd (f_X3_firstOf F r12 r14 s15) fun r16 s17 =>
  wt_bnd (f_X3_firstOf F r10 r16 s17) fun r18 s19 =>
  if r18 = 0 then (
    wt_bnd (f_X0_takeFrom F 24 1 s19) fun r20 s21 =>
    if x3 = 0 then (
      j_X3_whichKind_59 F x1 x2 x3 (0 : Int32) (5 : Int32) s21
    ) else (
      j_X3_whichKind_59 F x1 x2 x3 (0 : Int32) (9 : Int32) s21
    )
  ) else (
    wt_bnd (f_X3_refuse F r18 s19) fun r22 s23 =>
    some (r22, s23)
  )
  ) := rfl
noncomputable def f_X3_ownsWell (F : Nat) (x1 : Int32) (x2 : Int32) (x3 : Int32) (x4 : Int32) (σ : Mem) : Option (Int32 × Mem) :=
  wt_chk x1 5 <|
  wt_bnd (f_X0_behind F 1 x1 x2 x4 σ) fun r2 s3 =>
  wt_chk x2 8 <|
  wt_lt (up2 s3 (24 + 11 + Int32.toNatClampNeg x1) (Int32.toNatClampNeg x2) r2) fun s5 =>
  wt_lt (up2 s5 (24 + 18 + Int32.toNatClampNeg x1) (Int32.toNatClampNeg x2) (0 : Int32)) fun s6 =>
  wt_bnd (f_X0_holder F 24 x2 x3 s6) fun r7 s8 =>
  if r7 = x1 then (
    some ((1 : Int32), s8)
  ) else (
    some ((0 : Int32), s8)
  )
theorem f_X3_ownsWell_e {F : Nat} {x1 : Int32} {x2 : Int32} {x3 : Int32} {x4 : Int32} {σ : Mem} : f_X3_ownsWell F x1 x2 x3 x4 σ = (
  wt_chk x1 5 <|
  wt_bnd (f_X0_behind F 1 x1 x2 x4 σ) fun r2 s3 =>
  wt_chk x2 8 <|
  wt_lt (up2 s3 (24 + 11 + Int32.toNatClampNeg x1) (Int32.toNatClampNeg x2) r2) fun s5 =>
  wt_lt (up2 s5 (24 + 18 + Int32.toNatClampNeg x1) (Int32.toNatClampNeg x2) (0 : Int32)) fun s6 =>
  wt_bnd (f_X0_holder F 24 x2 x3 s6) fun r7 s8 =>
  if r7 = x1 then (
    some ((1 : Int32), s8)
  ) else (
    some ((0 : Int32), s8)
  )
  ) := rfl
noncomputable def j_X3_ill_181 (F : Nat) (k117 : Int64 → Int64 → Int64 → Int32 → Mem → Option (Int64 × Mem)) (x1 : Int32) (x2 : Int32) (x3 : Int32) (x4 : Int32) (x5 : Int32) (y7 : Int64) (y11 : Int64) (x13 : Int32) (t0 : Int64) (σ : Mem) : Option (Int64 × Mem) :=
  k117 y7 t0 y11 (x13 + (1 : Int32)) σ
theorem j_X3_ill_181_e {F : Nat} {k117 : Int64 → Int64 → Int64 → Int32 → Mem → Option (Int64 × Mem)} {x1 : Int32} {x2 : Int32} {x3 : Int32} {x4 : Int32} {x5 : Int32} {y7 : Int64} {y11 : Int64} {x13 : Int32} {t0 : Int64} {σ : Mem} : j_X3_ill_181 F k117 x1 x2 x3 x4 x5 y7 y11 x13 t0 σ = (
  k117 y7 t0 y11 (x13 + (1 : Int32)) σ
  ) := rfl
noncomputable def j_X3_ill_142 (F : Nat) (k117 : Int64 → Int64 → Int64 → Int32 → Mem → Option (Int64 × Mem)) (x1 : Int32) (x2 : Int32) (x3 : Int32) (x4 : Int32) (x5 : Int32) (y7 : Int64) (y9 : Int64) (y11 : Int64) (x13 : Int32) (σ : Mem) : Option (Int64 × Mem) :=
  wt_nzl (Int32.toInt64 (x13 + (1 : Int32))) <|
  wt_lt (((y11 * (Int32.toInt64 (x3 - x13))) / (Int32.toInt64 (x13 + (1 : Int32)))) * (Int32.toInt64 (x4 - (1 : Int32)))) fun z1 =>
  if x3 ≤ x13 then (
    j_X3_ill_181 F k117 x1 x2 x3 x4 x5 y7 z1 x13 y9 σ
  ) else (
    j_X3_ill_181 F k117 x1 x2 x3 x4 x5 y7 z1 x13 (y9 * (Int32.toInt64 x4)) σ
  )
theorem j_X3_ill_142_e {F : Nat} {k117 : Int64 → Int64 → Int64 → Int32 → Mem → Option (Int64 × Mem)} {x1 : Int32} {x2 : Int32} {x3 : Int32} {x4 : Int32} {x5 : Int32} {y7 : Int64} {y9 : Int64} {y11 : Int64} {x13 : Int32} {σ : Mem} : j_X3_ill_142 F k117 x1 x2 x3 x4 x5 y7 y9 y11 x13 σ = (
  wt_nzl (Int32.toInt64 (x13 + (1 : Int32))) <|
  wt_lt (((y11 * (Int32.toInt64 (x3 - x13))) / (Int32.toInt64 (x13 + (1 : Int32)))) * (Int32.toInt64 (x4 - (1 : Int32)))) fun z1 =>
  if x3 ≤ x13 then (
    j_X3_ill_181 F k117 x1 x2 x3 x4 x5 y7 z1 x13 y9 σ
  ) else (
    j_X3_ill_181 F k117 x1 x2 x3 x4 x5 y7 z1 x13 (y9 * (Int32.toInt64 x4)) σ
  )
  ) := rfl
noncomputable def lp_X3_ill_117 (F : Nat) (x1 : Int32) (x2 : Int32) (x3 : Int32) (x4 : Int32) (x5 : Int32) : Nat → Int64 → Int64 → Int64 → Int32 → Mem → Option (Int64 × Mem) := fun N => Nat.rec (motive := fun _ => Int64 → Int64 → Int64 → Int32 → Mem → Option (Int64 × Mem)) (fun _ _ _ _ _ => none) (fun _ ih y7 y9 y11 x13 σ =>
  if x3 < x13 then (
    wt_bnd (f_X3_fraction F y7 y9 x5 σ) fun r2 s3 =>
    some (r2, s3)
  ) else (
    wt_bnd (f_X3_ownsWell F x1 x2 x3 x13 σ) fun r4 s5 =>
    if r4 = 0 then (
      j_X3_ill_142 F ih x1 x2 x3 x4 x5 y7 y9 y11 x13 s5
    ) else (
      j_X3_ill_142 F ih x1 x2 x3 x4 x5 (y7 + y11) y9 y11 x13 s5
    )
  )
  ) N
theorem lp_X3_ill_117_s {F N : Nat} {x1 : Int32} {x2 : Int32} {x3 : Int32} {x4 : Int32} {x5 : Int32} {y7 : Int64} {y9 : Int64} {y11 : Int64} {x13 : Int32} {σ : Mem} : lp_X3_ill_117 F x1 x2 x3 x4 x5 (N + 1) y7 y9 y11 x13 σ = (
  if x3 < x13 then (
    wt_bnd (f_X3_fraction F y7 y9 x5 σ) fun r2 s3 =>
    some (r2, s3)
  ) else (
    wt_bnd (f_X3_ownsWell F x1 x2 x3 x13 σ) fun r4 s5 =>
    if r4 = 0 then (
      j_X3_ill_142 F (lp_X3_ill_117 F x1 x2 x3 x4 x5 N) x1 x2 x3 x4 x5 y7 y9 y11 x13 s5
    ) else (
      j_X3_ill_142 F (lp_X3_ill_117 F x1 x2 x3 x4 x5 N) x1 x2 x3 x4 x5 (y7 + y11) y9 y11 x13 s5
    )
  )
  ) := rfl
noncomputable def j_X3_ill_55 (F : Nat) (x1 : Int32) (x2 : Int32) (x3 : Int32) (x4 : Int32) (x5 : Int32) (x6 : Int32) (σ : Mem) : Option (Int64 × Mem) :=
  wt_bnd (f_X3_notBelow F x5 (2 : Int32) σ) fun r6 s7 =>
  wt_bnd (f_X3_firstOf F x6 r6 s7) fun r8 s9 =>
  if r8 = 0 then (
    wt_bnd (f_X0_reckon F 1 s9) fun r10 s11 =>
    wt_bnd (f_X0_takeFrom F 24 1 s11) fun r12 s13 =>
    wt_bnd (f_X0_reckon F 24 s13) fun r14 s15 =>
    lp_X3_ill_117 F x1 x2 x3 x4 x5 F (0 : Int64) (1 : Int64) (1 : Int64) (0 : Int32) s15
  ) else (
    wt_bnd (f_X3_refuseLong F r8 s9) fun r16 s17 =>
    some (r16, s17)
  )
theorem j_X3_ill_55_e {F : Nat} {x1 : Int32} {x2 : Int32} {x3 : Int32} {x4 : Int32} {x5 : Int32} {x6 : Int32} {σ : Mem} : j_X3_ill_55 F x1 x2 x3 x4 x5 x6 σ = (
  wt_bnd (f_X3_notBelow F x5 (2 : Int32) σ) fun r6 s7 =>
  wt_bnd (f_X3_firstOf F x6 r6 s7) fun r8 s9 =>
  if r8 = 0 then (
    wt_bnd (f_X0_reckon F 1 s9) fun r10 s11 =>
    wt_bnd (f_X0_takeFrom F 24 1 s11) fun r12 s13 =>
    wt_bnd (f_X0_reckon F 24 s13) fun r14 s15 =>
    lp_X3_ill_117 F x1 x2 x3 x4 x5 F (0 : Int64) (1 : Int64) (1 : Int64) (0 : Int32) s15
  ) else (
    wt_bnd (f_X3_refuseLong F r8 s9) fun r16 s17 =>
    some (r16, s17)
  )
  ) := rfl
noncomputable def j_X3_ill_51 (F : Nat) (x1 : Int32) (x2 : Int32) (x3 : Int32) (x4 : Int32) (x5 : Int32) (σ : Mem) : Option (Int64 × Mem) :=
  j_X3_ill_55 F x1 x2 x3 x4 x5 (-6 : Int32) σ
theorem j_X3_ill_51_e {F : Nat} {x1 : Int32} {x2 : Int32} {x3 : Int32} {x4 : Int32} {x5 : Int32} {σ : Mem} : j_X3_ill_51 F x1 x2 x3 x4 x5 σ = (
  j_X3_ill_55 F x1 x2 x3 x4 x5 (-6 : Int32) σ
  ) := rfl
noncomputable def j_X3_ill_33 (F : Nat) (x1 : Int32) (x2 : Int32) (x3 : Int32) (x4 : Int32) (x5 : Int32) (x6 : Int32) (σ : Mem) : Option (Int64 × Mem) :=
  if x6 = 0 then (
    if (8 : Int32) < x3 then (
      j_X3_ill_51 F x1 x2 x3 x4 x5 σ
    ) else (
      if x4 ≤ (20 : Int32) then (
        j_X3_ill_55 F x1 x2 x3 x4 x5 x6 σ
      ) else (
        j_X3_ill_51 F x1 x2 x3 x4 x5 σ
      )
    )
  ) else (
    j_X3_ill_55 F x1 x2 x3 x4 x5 x6 σ
  )
theorem j_X3_ill_33_e {F : Nat} {x1 : Int32} {x2 : Int32} {x3 : Int32} {x4 : Int32} {x5 : Int32} {x6 : Int32} {σ : Mem} : j_X3_ill_33 F x1 x2 x3 x4 x5 x6 σ = (
  if x6 = 0 then (
    if (8 : Int32) < x3 then (
      j_X3_ill_51 F x1 x2 x3 x4 x5 σ
    ) else (
      if x4 ≤ (20 : Int32) then (
        j_X3_ill_55 F x1 x2 x3 x4 x5 x6 σ
      ) else (
        j_X3_ill_51 F x1 x2 x3 x4 x5 σ
      )
    )
  ) else (
    j_X3_ill_55 F x1 x2 x3 x4 x5 x6 σ
  )
  ) := rfl
noncomputable def j_X3_ill_29 (F : Nat) (x1 : Int32) (x2 : Int32) (x3 : Int32) (x4 : Int32) (x5 : Int32) (σ : Mem) : Option (Int64 × Mem) :=
  j_X3_ill_33 F x1 x2 x3 x4 x5 (-4 : Int32) σ
theorem j_X3_ill_29_e {F : Nat} {x1 : Int32} {x2 : Int32} {x3 : Int32} {x4 : Int32} {x5 : Int32} {σ : Mem} : j_X3_ill_29 F x1 x2 x3 x4 x5 σ = (
  j_X3_ill_33 F x1 x2 x3 x4 x5 (-4 : Int32) σ
  ) := rfl
noncomputable def f_X3_ill (F : Nat) (x1 : Int32) (x2 : Int32) (x3 : Int32) (x4 : Int32) (x5 : Int32) (σ : Mem) : Option (Int64 × Mem) :=
  wt_bnd (f_X3_noLooker F x1 σ) fun r18 s19 =>
  wt_bnd (f_X3_noView F x2 s19) fun r20 s21 =>
  wt_bnd (f_X3_firstOf F r18 r20 s21) fun r22 s23 =>
  if r22 = 0 then (
    if x3 < 0 then (
      j_X3_ill_29 F x1 x2 x3 x4 x5 s23
    ) else (
      if (2 : Int32) ≤ x4 then (
        j_X3_ill_33 F x1 x2 x3 x4 x5 r22 s23
      ) else (
        j_X3_ill_29 F x1 x2 x3 x4 x5 s23
      )
    )
  ) else (
    j_X3_ill_33 F x1 x2 x3 x4 x5 r22 s23
  )
theorem f_X3_ill_e {F : Nat} {x1 : Int32} {x2 : Int32} {x3 : Int32} {x4 : Int32} {x5 : Int32} {σ : Mem} : f_X3_ill F x1 x2 x3 x4 x5 σ = (
  wt_bnd (f_X3_noLooker F x1 σ) fun r18 s19 =>
  wt_bnd (f_X3_noView F x2 s19) fun r20 s21 =>
  wt_bnd (f_X3_firstOf F r18 r20 s21) fun r22 s23 =>
  if r22 = 0 then (
    if x3 < 0 then (
      j_X3_ill_29 F x1 x2 x3 x4 x5 s23
    ) else (
      if (2 : Int32) ≤ x4 then (
        j_X3_ill_33 F x1 x2 x3 x4 x5 r22 s23
      ) else (
        j_X3_ill_29 F x1 x2 x3 x4 x5 s23
      )
    )
  ) else (
    j_X3_ill_33 F x1 x2 x3 x4 x5 r22 s23
  )
  ) := rfl
noncomputable def j_X3_busy_56 (F : Nat) (k24 : Int32 → Int32 → Int32 → Mem → Option (Int32 × Mem)) (x1 : Int32) (x3 : Int32) (x4 : Int32) (x5 : Int32) (σ : Mem) : Option (Int32 × Mem) :=
  k24 x3 x4 (x5 + (1 : Int32)) σ
theorem j_X3_busy_56_e {F : Nat} {k24 : Int32 → Int32 → Int32 → Mem → Option (Int32 × Mem)} {x1 : Int32} {x3 : Int32} {x4 : Int32} {x5 : Int32} {σ : Mem} : j_X3_busy_56 F k24 x1 x3 x4 x5 σ = (
  k24 x3 x4 (x5 + (1 : Int32)) σ
  ) := rfl
noncomputable def lp_X3_busy_24 (F : Nat) (x1 : Int32) : Nat → Int32 → Int32 → Int32 → Mem → Option (Int32 × Mem) := fun N => Nat.rec (motive := fun _ => Int32 → Int32 → Int32 → Mem → Option (Int32 × Mem)) (fun _ _ _ _ => none) (fun _ ih x3 x4 x5 σ =>
  if (24 : Int32) ≤ x5 then (
    if x1 = 0 then (
      some (x3, σ)
    ) else (
      some (x4, σ)
    )
  ) else (
    wt_bnd (f_X0_standingIn F 1 x5 σ) fun r1 s2 =>
    if r1 ≤ x4 then (
      j_X3_busy_56 F ih x1 x3 x4 x5 s2
    ) else (
      j_X3_busy_56 F ih x1 x5 r1 x5 s2
    )
  )
  ) N
theorem lp_X3_busy_24_s {F N : Nat} {x1 : Int32} {x3 : Int32} {x4 : Int32} {x5 : Int32} {σ : Mem} : lp_X3_busy_24 F x1 (N + 1) x3 x4 x5 σ = (
  if (24 : Int32) ≤ x5 then (
    if x1 = 0 then (
      some (x3, σ)
    ) else (
      some (x4, σ)
    )
  ) else (
    wt_bnd (f_X0_standingIn F 1 x5 σ) fun r1 s2 =>
    if r1 ≤ x4 then (
      j_X3_busy_56 F (lp_X3_busy_24 F x1 N) x1 x3 x4 x5 s2
    ) else (
      j_X3_busy_56 F (lp_X3_busy_24 F x1 N) x1 x5 r1 x5 s2
    )
  )
  ) := rfl
noncomputable def f_X3_busy (F : Nat) (x1 : Int32) (σ : Mem) : Option (Int32 × Mem) :=
  wt_bnd (f_X3_notBelow F x1 (2 : Int32) σ) fun r3 s4 =>
  if r3 = 0 then (
    lp_X3_busy_24 F x1 F (0 : Int32) (0 : Int32) (0 : Int32) s4
  ) else (
    wt_bnd (f_X3_refuse F r3 s4) fun r5 s6 =>
    some (r5, s6)
  )
theorem f_X3_busy_e {F : Nat} {x1 : Int32} {σ : Mem} : f_X3_busy F x1 σ = (
  wt_bnd (f_X3_notBelow F x1 (2 : Int32) σ) fun r3 s4 =>
  if r3 = 0 then (
    lp_X3_busy_24 F x1 F (0 : Int32) (0 : Int32) (0 : Int32) s4
  ) else (
    wt_bnd (f_X3_refuse F r3 s4) fun r5 s6 =>
    some (r5, s6)
  )
  ) := rfl
noncomputable def j_X3_together_77 (F : Nat) (k23 : Int32 → Int32 → Mem → Option (Int32 × Mem)) (x1 : Int32) (x2 : Int32) (x4 : Int32) (x5 : Int32) (σ : Mem) : Option (Int32 × Mem) :=
  k23 x4 (x5 + (1 : Int32)) σ
theorem j_X3_together_77_e {F : Nat} {k23 : Int32 → Int32 → Mem → Option (Int32 × Mem)} {x1 : Int32} {x2 : Int32} {x4 : Int32} {x5 : Int32} {σ : Mem} : j_X3_together_77 F k23 x1 x2 x4 x5 σ = (
  k23 x4 (x5 + (1 : Int32)) σ
  ) := rfl
noncomputable def lp_X3_together_23 (F : Nat) (x1 : Int32) (x2 : Int32) : Nat → Int32 → Int32 → Mem → Option (Int32 × Mem) := fun N => Nat.rec (motive := fun _ => Int32 → Int32 → Mem → Option (Int32 × Mem)) (fun _ _ _ => none) (fun _ ih x4 x5 σ =>
  if (24 : Int32) ≤ x5 then (
    some (x4, σ)
  ) else (
    wt_chk x1 5 <|
    wt_chk x5 24 <|
    wt_lt (σ (1 + 5 + Int32.toNatClampNeg x1) (Int32.toNatClampNeg x5)) fun z3 =>
    if z3 = (9 : Int32) then (
      j_X3_together_77 F ih x1 x2 x4 x5 σ
    ) else (
      wt_chk x2 5 <|
      if (σ (1 + 5 + Int32.toNatClampNeg x2) (Int32.toNatClampNeg x5)) = z3 then (
        wt_lt (x4 ||| ((1 : Int32) <<< (x5 &&& 31))) fun z5 =>
        j_X3_together_77 F ih x1 x2 z5 x5 σ
      ) else (
        j_X3_together_77 F ih x1 x2 x4 x5 σ
      )
    )
  )
  ) N
theorem lp_X3_together_23_s {F N : Nat} {x1 : Int32} {x2 : Int32} {x4 : Int32} {x5 : Int32} {σ : Mem} : lp_X3_together_23 F x1 x2 (N + 1) x4 x5 σ = (
  if (24 : Int32) ≤ x5 then (
    some (x4, σ)
  ) else (
    wt_chk x1 5 <|
    wt_chk x5 24 <|
    wt_lt (σ (1 + 5 + Int32.toNatClampNeg x1) (Int32.toNatClampNeg x5)) fun z3 =>
    if z3 = (9 : Int32) then (
      j_X3_together_77 F (lp_X3_together_23 F x1 x2 N) x1 x2 x4 x5 σ
    ) else (
      wt_chk x2 5 <|
      if (σ (1 + 5 + Int32.toNatClampNeg x2) (Int32.toNatClampNeg x5)) = z3 then (
        wt_lt (x4 ||| ((1 : Int32) <<< (x5 &&& 31))) fun z5 =>
        j_X3_together_77 F (lp_X3_together_23 F x1 x2 N) x1 x2 z5 x5 σ
      ) else (
        j_X3_together_77 F (lp_X3_together_23 F x1 x2 N) x1 x2 x4 x5 σ
      )
    )
  )
  ) := rfl
noncomputable def f_X3_together (F : Nat) (x1 : Int32) (x2 : Int32) (σ : Mem) : Option (Int32 × Mem) :=
  wt_bnd (f_X3_noPair F x1 x2 σ) fun r6 s7 =>
  if r6 = 0 then (
    lp_X3_together_23 F x1 x2 F (0 : Int32) (0 : Int32) s7
  ) else (
    wt_bnd (f_X3_refuse F r6 s7) fun r8 s9 =>
    some (r8, s9)
  )
theorem f_X3_together_e {F : Nat} {x1 : Int32} {x2 : Int32} {σ : Mem} : f_X3_together F x1 x2 σ = (
  wt_bnd (f_X3_noPair F x1 x2 σ) fun r6 s7 =>
  if r6 = 0 then (
    lp_X3_together_23 F x1 x2 F (0 : Int32) (0 : Int32) s7
  ) else (
    wt_bnd (f_X3_refuse F r6 s7) fun r8 s9 =>
    some (r8, s9)
  )
  ) := rfl
noncomputable def f_X3_wealthSwapped (F : Nat) (x1 : Int32) (x2 : Int32) (x3 : Int32) (σ : Mem) : Option (Int32 × Mem) :=
  wt_bnd (f_X0_tradeRosters F 24 x1 x2 σ) fun r1 s2 =>
  wt_bnd (f_X0_reckon F 24 s2) fun r3 s4 =>
  wt_bnd (f_X0_wealth F 24 x1 x3 s4) fun r5 s6 =>
  wt_bnd (f_X0_wealth F 24 x2 x3 s6) fun r7 s8 =>
  wt_bnd (f_X0_tradeRosters F 24 x1 x2 s8) fun r9 s10 =>
  some ((r5 + r7), s10)
theorem f_X3_wealthSwapped_e {F : Nat} {x1 : Int32} {x2 : Int32} {x3 : Int32} {σ : Mem} : f_X3_wealthSwapped F x1 x2 x3 σ = (
  wt_bnd (f_X0_tradeRosters F 24 x1 x2 σ) fun r1 s2 =>
  wt_bnd (f_X0_reckon F 24 s2) fun r3 s4 =>
  wt_bnd (f_X0_wealth F 24 x1 x3 s4) fun r5 s6 =>
  wt_bnd (f_X0_wealth F 24 x2 x3 s6) fun r7 s8 =>
  wt_bnd (f_X0_tradeRosters F 24 x1 x2 s8) fun r9 s10 =>
  some ((r5 + r7), s10)
  ) := rfl
noncomputable def j_X3_swap_137 (F : Nat) (k46 : Int32 → Int32 → Int32 → Mem → Option (Int32 × Mem)) (k64 : Int32 → Int32 → Int32 → Mem → Option (Int32 × Mem)) (x1 : Int32) (x3 : Int32) (x4 : Int32) (x5 : Int32) (x6 : Int32) (σ : Mem) : Option (Int32 × Mem) :=
  k64 x3 x4 (x6 + (1 : Int32)) σ
theorem j_X3_swap_137_e {F : Nat} {k46 : Int32 → Int32 → Int32 → Mem → Option (Int32 × Mem)} {k64 : Int32 → Int32 → Int32 → Mem → Option (Int32 × Mem)} {x1 : Int32} {x3 : Int32} {x4 : Int32} {x5 : Int32} {x6 : Int32} {σ : Mem} : j_X3_swap_137 F k46 k64 x1 x3 x4 x5 x6 σ = (
  k64 x3 x4 (x6 + (1 : Int32)) σ
  ) := rfl
noncomputable def lp_X3_swap_64 (F : Nat) (k46 : Int32 → Int32 → Int32 → Mem → Option (Int32 × Mem)) (x1 : Int32) (x5 : Int32) : Nat → Int32 → Int32 → Int32 → Mem → Option (Int32 × Mem) := fun N => Nat.rec (motive := fun _ => Int32 → Int32 → Int32 → Mem → Option (Int32 × Mem)) (fun _ _ _ _ => none) (fun _ ih x3 x4 x6 σ =>
  if (σ 1 2) ≤ x6 then (
    k46 x3 x4 (x5 + (1 : Int32)) σ
  ) else (
    wt_bnd (f_X3_wealthSwapped F x5 x6 x1 σ) fun r1 s2 =>
    wt_bnd (f_X0_wealth F 1 x5 x1 s2) fun r3 s4 =>
    wt_bnd (f_X0_wealth F 1 x6 x1 s4) fun r5 s6 =>
    if r1 ≤ (r3 + r5) then (
      j_X3_swap_137 F k46 ih x1 x3 x4 x5 x6 s6
    ) else (
      if r1 ≤ x4 then (
        j_X3_swap_137 F k46 ih x1 x3 x4 x5 x6 s6
      ) else (
        wt_lt (((10 : Int32) * x5) + x6) fun z7 =>
        j_X3_swap_137 F k46 ih x1 z7 r1 x5 x6 s6
      )
    )
  )
  ) N
theorem lp_X3_swap_64_s {F N : Nat} {k46 : Int32 → Int32 → Int32 → Mem → Option (Int32 × Mem)} {x1 : Int32} {x5 : Int32} {x3 : Int32} {x4 : Int32} {x6 : Int32} {σ : Mem} : lp_X3_swap_64 F k46 x1 x5 (N + 1) x3 x4 x6 σ = (
  if (σ 1 2) ≤ x6 then (
    k46 x3 x4 (x5 + (1 : Int32)) σ
  ) else (
    wt_bnd (f_X3_wealthSwapped F x5 x6 x1 σ) fun r1 s2 =>
    wt_bnd (f_X0_wealth F 1 x5 x1 s2) fun r3 s4 =>
    wt_bnd (f_X0_wealth F 1 x6 x1 s4) fun r5 s6 =>
    if r1 ≤ (r3 + r5) then (
      j_X3_swap_137 F k46 (lp_X3_swap_64 F k46 x1 x5 N) x1 x3 x4 x5 x6 s6
    ) else (
      if r1 ≤ x4 then (
        j_X3_swap_137 F k46 (lp_X3_swap_64 F k46 x1 x5 N) x1 x3 x4 x5 x6 s6
      ) else (
        wt_lt (((10 : Int32) * x5) + x6) fun z7 =>
        j_X3_swap_137 F k46 (lp_X3_swap_64 F k46 x1 x5 N) x1 z7 r1 x5 x6 s6
      )
    )
  )
  ) := rfl
noncomputable def lp_X3_swap_46 (F : Nat) (x1 : Int32) : Nat → Int32 → Int32 → Int32 → Mem → Option (Int32 × Mem) := fun N => Nat.rec (motive := fun _ => Int32 → Int32 → Int32 → Mem → Option (Int32 × Mem)) (fun _ _ _ _ => none) (fun _ ih x3 x4 x5 σ =>
  if (σ 1 2) ≤ x5 then (
    some (x3, σ)
  ) else (
    lp_X3_swap_64 F ih x1 x5 F x3 x4 (x5 + (1 : Int32)) σ
  )
  ) N
theorem lp_X3_swap_46_s {F N : Nat} {x1 : Int32} {x3 : Int32} {x4 : Int32} {x5 : Int32} {σ : Mem} : lp_X3_swap_46 F x1 (N + 1) x3 x4 x5 σ = (
  if (σ 1 2) ≤ x5 then (
    some (x3, σ)
  ) else (
    lp_X3_swap_64 F (lp_X3_swap_46 F x1 N) x1 x5 F x3 x4 (x5 + (1 : Int32)) σ
  )
  ) := rfl
noncomputable def f_X3_swap (F : Nat) (x1 : Int32) (σ : Mem) : Option (Int32 × Mem) :=
  wt_bnd (f_X3_outside F x1 (0 : Int32) (999 : Int32) σ) fun r8 s9 =>
  if r8 = 0 then (
    wt_bnd (f_X0_reckon F 1 s9) fun r10 s11 =>
    wt_bnd (f_X0_takeFrom F 24 1 s11) fun r12 s13 =>
    lp_X3_swap_46 F x1 F (-9 : Int32) (-1 : Int32) (0 : Int32) s13
  ) else (
    wt_bnd (f_X3_refuse F r8 s9) fun r14 s15 =>
    some (r14, s15)
  )
theorem f_X3_swap_e {F : Nat} {x1 : Int32} {σ : Mem} : f_X3_swap F x1 σ = (
  wt_bnd (f_X3_outside F x1 (0 : Int32) (999 : Int32) σ) fun r8 s9 =>
  if r8 = 0 then (
    wt_bnd (f_X0_reckon F 1 s9) fun r10 s11 =>
    wt_bnd (f_X0_takeFrom F 24 1 s11) fun r12 s13 =>
    lp_X3_swap_46 F x1 F (-9 : Int32) (-1 : Int32) (0 : Int32) s13
  ) else (
    wt_bnd (f_X3_refuse F r8 s9) fun r14 s15 =>
    some (r14, s15)
  )
  ) := rfl
noncomputable def lp_X3_heir_65 (F : Nat) (x1 : Int32) (x2 : Int32) (x3 : Int32) : Nat → Int32 → Mem → Option (Int32 × Mem) := fun N => Nat.rec (motive := fun _ => Int32 → Mem → Option (Int32 × Mem)) (fun _ _ => none) (fun _ ih x5 σ =>
  if (8 : Int32) ≤ x5 then (
    wt_bnd (f_X0_reckon F 24 σ) fun r1 s2 =>
    wt_bnd (f_X0_holder F 24 x2 x3 s2) fun r3 s4 =>
    some (r3, s4)
  ) else (
    wt_chk x1 5 <|
    wt_chk x5 8 <|
    wt_lt (up2 σ (24 + 11 + Int32.toNatClampNeg x1) (Int32.toNatClampNeg x5) (0 : Int32)) fun s7 =>
    ih (x5 + (1 : Int32)) s7
  )
  ) N
theorem lp_X3_heir_65_s {F N : Nat} {x1 : Int32} {x2 : Int32} {x3 : Int32} {x5 : Int32} {σ : Mem} : lp_X3_heir_65 F x1 x2 x3 (N + 1) x5 σ = (
  if (8 : Int32) ≤ x5 then (
    wt_bnd (f_X0_reckon F 24 σ) fun r1 s2 =>
    wt_bnd (f_X0_holder F 24 x2 x3 s2) fun r3 s4 =>
    some (r3, s4)
  ) else (
    wt_chk x1 5 <|
    wt_chk x5 8 <|
    wt_lt (up2 σ (24 + 11 + Int32.toNatClampNeg x1) (Int32.toNatClampNeg x5) (0 : Int32)) fun s7 =>
    (lp_X3_heir_65 F x1 x2 x3 N) (x5 + (1 : Int32)) s7
  )
  ) := rfl
noncomputable def f_X3_heir (F : Nat) (x1 : Int32) (x2 : Int32) (x3 : Int32) (σ : Mem) : Option (Int32 × Mem) :=
  wt_bnd (f_X3_noLooker F x1 σ) fun r8 s9 =>
  wt_bnd (f_X3_noView F x2 s9) fun r10 s11 =>
  wt_bnd (f_X3_firstOf F r8 r10 s11) fun r12 s13 =>
  wt_bnd (f_X3_outside F x3 (0 : Int32) (999 : Int32) s13) fun r14 s15 =>
  wt_bnd (f_X3_firstOf F r12 r14 s15) fun r16 s17 =>
  if r16 = 0 then (
    wt_bnd (f_X0_takeFrom F 24 1 s17) fun r18 s19 =>
    wt_bnd (f_X0_post F 24 x1 (0 : Int32) (23 : Int32) (9 : Int32) s19) fun r20 s21 =>
    lp_X3_heir_65 F x1 x2 x3 F (0 : Int32) s21
  ) else (
    wt_bnd (f_X3_refuse F r16 s17) fun r22 s23 =>
    some (r22, s23)
  )
theorem f_X3_heir_e {F : Nat} {x1 : Int32} {x2 : Int32} {x3 : Int32} {σ : Mem} : f_X3_heir F x1 x2 x3 σ = (
  wt_bnd (f_X3_noLooker F x1 σ) fun r8 s9 =>
  wt_bnd (f_X3_noView F x2 s9) fun r10 s11 =>
  wt_bnd (f_X3_firstOf F r8 r10 s11) fun r12 s13 =>
  wt_bnd (f_X3_outside F x3 (0 : Int32) (999 : Int32) s13) fun r14 s15 =>
  wt_bnd (f_X3_firstOf F r12 r14 s15) fun r16 s17 =>
  if r16 = 0 then (
    wt_bnd (f_X0_takeFrom F 24 1 s17) fun r18 s19 =>
    wt_bnd (f_X0_post F 24 x1 (0 : Int32) (23 : Int32) (9 : Int32) s19) fun r20 s21 =>
    lp_X3_heir_65 F x1 x2 x3 F (0 : Int32) s21
  ) else (
    wt_bnd (f_X3_refuse F r16 s17) fun r22 s23 =>
    some (r22, s23)
  )
  ) := rfl
noncomputable def j_X3_even_79 (F : Nat) (k31 : Int32 → Int32 → Mem → Option (Int32 × Mem)) (k49 : Int32 → Int32 → Mem → Option (Int32 × Mem)) (x1 : Int32) (x3 : Int32) (x4 : Int32) (x5 : Int32) (σ : Mem) : Option (Int32 × Mem) :=
  k49 x3 (x5 + (1 : Int32)) σ
theorem j_X3_even_79_e {F : Nat} {k31 : Int32 → Int32 → Mem → Option (Int32 × Mem)} {k49 : Int32 → Int32 → Mem → Option (Int32 × Mem)} {x1 : Int32} {x3 : Int32} {x4 : Int32} {x5 : Int32} {σ : Mem} : j_X3_even_79 F k31 k49 x1 x3 x4 x5 σ = (
  k49 x3 (x5 + (1 : Int32)) σ
  ) := rfl
noncomputable def lp_X3_even_49 (F : Nat) (k31 : Int32 → Int32 → Mem → Option (Int32 × Mem)) (x1 : Int32) (x4 : Int32) : Nat → Int32 → Int32 → Mem → Option (Int32 × Mem) := fun N => Nat.rec (motive := fun _ => Int32 → Int32 → Mem → Option (Int32 × Mem)) (fun _ _ _ => none) (fun _ ih x3 x5 σ =>
  if (σ 1 2) ≤ x5 then (
    k31 x3 (x4 + (1 : Int32)) σ
  ) else (
    wt_bnd (f_X0_lead F 1 x4 x5 x1 σ) fun r1 s2 =>
    if r1 = 0 then (
      j_X3_even_79 F k31 ih x1 (x3 + (1 : Int32)) x4 x5 s2
    ) else (
      j_X3_even_79 F k31 ih x1 x3 x4 x5 s2
    )
  )
  ) N
theorem lp_X3_even_49_s {F N : Nat} {k31 : Int32 → Int32 → Mem → Option (Int32 × Mem)} {x1 : Int32} {x4 : Int32} {x3 : Int32} {x5 : Int32} {σ : Mem} : lp_X3_even_49 F k31 x1 x4 (N + 1) x3 x5 σ = (
  if (σ 1 2) ≤ x5 then (
    k31 x3 (x4 + (1 : Int32)) σ
  ) else (
    wt_bnd (f_X0_lead F 1 x4 x5 x1 σ) fun r1 s2 =>
    if r1 = 0 then (
      j_X3_even_79 F k31 (lp_X3_even_49 F k31 x1 x4 N) x1 (x3 + (1 : Int32)) x4 x5 s2
    ) else (
      j_X3_even_79 F k31 (lp_X3_even_49 F k31 x1 x4 N) x1 x3 x4 x5 s2
    )
  )
  ) := rfl
noncomputable def lp_X3_even_31 (F : Nat) (x1 : Int32) : Nat → Int32 → Int32 → Mem → Option (Int32 × Mem) := fun N => Nat.rec (motive := fun _ => Int32 → Int32 → Mem → Option (Int32 × Mem)) (fun _ _ _ => none) (fun _ ih x3 x4 σ =>
  if (σ 1 2) ≤ x4 then (
    some (x3, σ)
  ) else (
    lp_X3_even_49 F ih x1 x4 F x3 (x4 + (1 : Int32)) σ
  )
  ) N
theorem lp_X3_even_31_s {F N : Nat} {x1 : Int32} {x3 : Int32} {x4 : Int32} {σ : Mem} : lp_X3_even_31 F x1 (N + 1) x3 x4 σ = (
  if (σ 1 2) ≤ x4 then (
    some (x3, σ)
  ) else (
    lp_X3_even_49 F (lp_X3_even_31 F x1 N) x1 x4 F x3 (x4 + (1 : Int32)) σ
  )
  ) := rfl
noncomputable def f_X3_even (F : Nat) (x1 : Int32) (σ : Mem) : Option (Int32 × Mem) :=
  wt_bnd (f_X3_outside F x1 (0 : Int32) (999 : Int32) σ) fun r3 s4 =>
  if r3 = 0 then (
    wt_bnd (f_X0_reckon F 1 s4) fun r5 s6 =>
    lp_X3_even_31 F x1 F (0 : Int32) (0 : Int32) s6
  ) else (
    wt_bnd (f_X3_refuse F r3 s4) fun r7 s8 =>
    some (r7, s8)
  )
theorem f_X3_even_e {F : Nat} {x1 : Int32} {σ : Mem} : f_X3_even F x1 σ = (
  wt_bnd (f_X3_outside F x1 (0 : Int32) (999 : Int32) σ) fun r3 s4 =>
  if r3 = 0 then (
    wt_bnd (f_X0_reckon F 1 s4) fun r5 s6 =>
    lp_X3_even_31 F x1 F (0 : Int32) (0 : Int32) s6
  ) else (
    wt_bnd (f_X3_refuse F r3 s4) fun r7 s8 =>
    some (r7, s8)
  )
  ) := rfl
noncomputable def j_X3_last_62 (F : Nat) (k11 : Int32 → Int32 → Mem → Option (Int32 × Mem)) (x2 : Int32) (x4 : Int32) (σ : Mem) : Option (Int32 × Mem) :=
  k11 x4 (x2 + (1 : Int32)) σ
theorem j_X3_last_62_e {F : Nat} {k11 : Int32 → Int32 → Mem → Option (Int32 × Mem)} {x2 : Int32} {x4 : Int32} {σ : Mem} : j_X3_last_62 F k11 x2 x4 σ = (
  k11 x4 (x2 + (1 : Int32)) σ
  ) := rfl
noncomputable def lp_X3_last_34 (F : Nat) (k11 : Int32 → Int32 → Mem → Option (Int32 × Mem)) (x1 : Int32) (x2 : Int32) (x3 : Int32) : Nat → Int32 → Mem → Option (Int32 × Mem) := fun N => Nat.rec (motive := fun _ => Int32 → Mem → Option (Int32 × Mem)) (fun _ _ => none) (fun _ ih x4 σ =>
  if x4 ≤ x1 then (
    j_X3_last_62 F k11 x2 x4 σ
  ) else (
    wt_bnd (f_X0_holder F 1 x2 (x4 - (1 : Int32)) σ) fun r1 s2 =>
    if r1 = x3 then (
      ih (x4 + (-1 : Int32)) s2
    ) else (
      j_X3_last_62 F k11 x2 x4 s2
    )
  )
  ) N
theorem lp_X3_last_34_s {F N : Nat} {k11 : Int32 → Int32 → Mem → Option (Int32 × Mem)} {x1 : Int32} {x2 : Int32} {x3 : Int32} {x4 : Int32} {σ : Mem} : lp_X3_last_34 F k11 x1 x2 x3 (N + 1) x4 σ = (
  if x4 ≤ x1 then (
    j_X3_last_62 F k11 x2 x4 σ
  ) else (
    wt_bnd (f_X0_holder F 1 x2 (x4 - (1 : Int32)) σ) fun r1 s2 =>
    if r1 = x3 then (
      (lp_X3_last_34 F k11 x1 x2 x3 N) (x4 + (-1 : Int32)) s2
    ) else (
      j_X3_last_62 F k11 x2 x4 s2
    )
  )
  ) := rfl
noncomputable def lp_X3_last_11 (F : Nat) : Nat → Int32 → Int32 → Mem → Option (Int32 × Mem) := fun N => Nat.rec (motive := fun _ => Int32 → Int32 → Mem → Option (Int32 × Mem)) (fun _ _ _ => none) (fun _ ih x1 x2 σ =>
  if (8 : Int32) ≤ x2 then (
    some (x1, σ)
  ) else (
    wt_bnd (f_X0_holder F 1 x2 (999 : Int32) σ) fun r3 s4 =>
    lp_X3_last_34 F ih x1 x2 r3 F (999 : Int32) s4
  )
  ) N
theorem lp_X3_last_11_s {F N : Nat} {x1 : Int32} {x2 : Int32} {σ : Mem} : lp_X3_last_11 F (N + 1) x1 x2 σ = (
  if (8 : Int32) ≤ x2 then (
    some (x1, σ)
  ) else (
    wt_bnd (f_X0_holder F 1 x2 (999 : Int32) σ) fun r3 s4 =>
    lp_X3_last_34 F (lp_X3_last_11 F N) x1 x2 r3 F (999 : Int32) s4
  )
  ) := rfl
noncomputable def f_X3_last (F : Nat) (σ : Mem) : Option (Int32 × Mem) :=
  wt_bnd (f_X0_reckon F 1 σ) fun r5 s6 =>
  lp_X3_last_11 F F (0 : Int32) (0 : Int32) s6
theorem f_X3_last_e {F : Nat} {σ : Mem} : f_X3_last F σ = (
  wt_bnd (f_X0_reckon F 1 σ) fun r5 s6 =>
  lp_X3_last_11 F F (0 : Int32) (0 : Int32) s6
  ) := rfl
noncomputable def j_X3_joint_65 (F : Nat) (k34 : Int32 → Int32 → Mem → Option (Int32 × Mem)) (x1 : Int32) (x2 : Int32) (x3 : Int32) (x5 : Int32) (x6 : Int32) (σ : Mem) : Option (Int32 × Mem) :=
  k34 x5 (x6 + (1 : Int32)) σ
theorem j_X3_joint_65_e {F : Nat} {k34 : Int32 → Int32 → Mem → Option (Int32 × Mem)} {x1 : Int32} {x2 : Int32} {x3 : Int32} {x5 : Int32} {x6 : Int32} {σ : Mem} : j_X3_joint_65 F k34 x1 x2 x3 x5 x6 σ = (
  k34 x5 (x6 + (1 : Int32)) σ
  ) := rfl
noncomputable def lp_X3_joint_34 (F : Nat) (x1 : Int32) (x2 : Int32) (x3 : Int32) : Nat → Int32 → Int32 → Mem → Option (Int32 × Mem) := fun N => Nat.rec (motive := fun _ => Int32 → Int32 → Mem → Option (Int32 × Mem)) (fun _ _ _ => none) (fun _ ih x5 x6 σ =>
  if (8 : Int32) ≤ x6 then (
    some (x5, σ)
  ) else (
    wt_bnd (f_X0_outdo F 1 x1 x2 x6 x3 σ) fun r1 s2 =>
    if r1 = 0 then (
      j_X3_joint_65 F ih x1 x2 x3 x5 x6 s2
    ) else (
      wt_lt (x5 ||| ((1 : Int32) <<< (x6 &&& 31))) fun z3 =>
      j_X3_joint_65 F ih x1 x2 x3 z3 x6 s2
    )
  )
  ) N
theorem lp_X3_joint_34_s {F N : Nat} {x1 : Int32} {x2 : Int32} {x3 : Int32} {x5 : Int32} {x6 : Int32} {σ : Mem} : lp_X3_joint_34 F x1 x2 x3 (N + 1) x5 x6 σ = (
  if (8 : Int32) ≤ x6 then (
    some (x5, σ)
  ) else (
    wt_bnd (f_X0_outdo F 1 x1 x2 x6 x3 σ) fun r1 s2 =>
    if r1 = 0 then (
      j_X3_joint_65 F (lp_X3_joint_34 F x1 x2 x3 N) x1 x2 x3 x5 x6 s2
    ) else (
      wt_lt (x5 ||| ((1 : Int32) <<< (x6 &&& 31))) fun z3 =>
      j_X3_joint_65 F (lp_X3_joint_34 F x1 x2 x3 N) x1 x2 x3 z3 x6 s2
    )
  )
  ) := rfl
noncomputable def f_X3_joint (F : Nat) (x1 : Int32) (x2 : Int32) (x3 : Int32) (σ : Mem) : Option (Int32 × Mem) :=
  wt_bnd (f_X3_noPairFar F x1 x2 x3 σ) fun r4 s5 =>
  if r4 = 0 then (
    wt_bnd (f_X0_reckon F 1 s5) fun r6 s7 =>
    lp_X3_joint_34 F x1 x2 x3 F (0 : Int32) (0 : Int32) s7
  ) else (
    wt_bnd (f_X3_refuse F r4 s5) fun r8 s9 =>
    some (r8, s9)
  )
theorem f_X3_joint_e {F : Nat} {x1 : Int32} {x2 : Int32} {x3 : Int32} {σ : Mem} : f_X3_joint F x1 x2 x3 σ = (
  wt_bnd (f_X3_noPairFar F x1 x2 x3 σ) fun r4 s5 =>
  if r4 = 0 then (
    wt_bnd (f_X0_reckon F 1 s5) fun r6 s7 =>
    lp_X3_joint_34 F x1 x2 x3 F (0 : Int32) (0 : Int32) s7
  ) else (
    wt_bnd (f_X3_refuse F r4 s5) fun r8 s9 =>
    some (r8, s9)
  )
  ) := rfl
noncomputable def lp_X3_rank_29 (F : Nat) (x1 : Int32) (x2 : Int32) : Nat → Int32 → Mem → Option (Int32 × Mem) := fun N => Nat.rec (motive := fun _ => Int32 → Mem → Option (Int32 × Mem)) (fun _ _ => none) (fun _ ih x4 σ =>
  if (σ 1 2) ≤ x4 then (
    some ((-9 : Int32), σ)
  ) else (
    wt_bnd (f_X0_placeOf F 1 x4 x1 σ) fun r1 s2 =>
    if r1 = x2 then (
      some (x4, s2)
    ) else (
      ih (x4 + (1 : Int32)) s2
    )
  )
  ) N
theorem lp_X3_rank_29_s {F N : Nat} {x1 : Int32} {x2 : Int32} {x4 : Int32} {σ : Mem} : lp_X3_rank_29 F x1 x2 (N + 1) x4 σ = (
  if (σ 1 2) ≤ x4 then (
    some ((-9 : Int32), σ)
  ) else (
    wt_bnd (f_X0_placeOf F 1 x4 x1 σ) fun r1 s2 =>
    if r1 = x2 then (
      some (x4, s2)
    ) else (
      (lp_X3_rank_29 F x1 x2 N) (x4 + (1 : Int32)) s2
    )
  )
  ) := rfl
noncomputable def j_X3_rank_16 (F : Nat) (x1 : Int32) (x2 : Int32) (x3 : Int32) (σ : Mem) : Option (Int32 × Mem) :=
  if x3 = 0 then (
    lp_X3_rank_29 F x1 x2 F (0 : Int32) σ
  ) else (
    wt_bnd (f_X3_refuse F x3 σ) fun r3 s4 =>
    some (r3, s4)
  )
theorem j_X3_rank_16_e {F : Nat} {x1 : Int32} {x2 : Int32} {x3 : Int32} {σ : Mem} : j_X3_rank_16 F x1 x2 x3 σ = (
  if x3 = 0 then (
    lp_X3_rank_29 F x1 x2 F (0 : Int32) σ
  ) else (
    wt_bnd (f_X3_refuse F x3 σ) fun r3 s4 =>
    some (r3, s4)
  )
  ) := rfl
noncomputable def f_X3_rank (F : Nat) (x1 : Int32) (x2 : Int32) (σ : Mem) : Option (Int32 × Mem) :=
  wt_bnd (f_X3_noView F x1 σ) fun r5 s6 =>
  if r5 = 0 then (
    if 0 ≤ x2 then (
      j_X3_rank_16 F x1 x2 r5 s6
    ) else (
      j_X3_rank_16 F x1 x2 (-4 : Int32) s6
    )
  ) else (
    j_X3_rank_16 F x1 x2 r5 s6
  )
theorem f_X3_rank_e {F : Nat} {x1 : Int32} {x2 : Int32} {σ : Mem} : f_X3_rank F x1 x2 σ = (
  wt_bnd (f_X3_noView F x1 σ) fun r5 s6 =>
  if r5 = 0 then (
    if 0 ≤ x2 then (
      j_X3_rank_16 F x1 x2 r5 s6
    ) else (
      j_X3_rank_16 F x1 x2 (-4 : Int32) s6
    )
  ) else (
    j_X3_rank_16 F x1 x2 r5 s6
  )
  ) := rfl
noncomputable def j_X3_gap_96 (F : Nat) (k42 : Int32 → Int32 → Int32 → Mem → Option (Int32 × Mem)) (x1 : Int32) (x2 : Int32) (x4 : Int32) (x5 : Int32) (x6 : Int32) (σ : Mem) : Option (Int32 × Mem) :=
  k42 x4 x5 (x6 + (1 : Int32)) σ
theorem j_X3_gap_96_e {F : Nat} {k42 : Int32 → Int32 → Int32 → Mem → Option (Int32 × Mem)} {x1 : Int32} {x2 : Int32} {x4 : Int32} {x5 : Int32} {x6 : Int32} {σ : Mem} : j_X3_gap_96 F k42 x1 x2 x4 x5 x6 σ = (
  k42 x4 x5 (x6 + (1 : Int32)) σ
  ) := rfl
noncomputable def lp_X3_gap_42 (F : Nat) (x1 : Int32) (x2 : Int32) : Nat → Int32 → Int32 → Int32 → Mem → Option (Int32 × Mem) := fun N => Nat.rec (motive := fun _ => Int32 → Int32 → Int32 → Mem → Option (Int32 × Mem)) (fun _ _ _ _ => none) (fun _ ih x4 x5 x6 σ =>
  if (σ 1 2) ≤ x6 then (
    some ((x4 - x5), σ)
  ) else (
    wt_bnd (f_X0_behind F 1 x6 x1 x2 σ) fun r1 s2 =>
    if r1 ≤ x4 then (
      if r1 ≤ x5 then (
        j_X3_gap_96 F ih x1 x2 x4 x5 x6 s2
      ) else (
        j_X3_gap_96 F ih x1 x2 x4 r1 x6 s2
      )
    ) else (
      j_X3_gap_96 F ih x1 x2 r1 x4 x6 s2
    )
  )
  ) N
theorem lp_X3_gap_42_s {F N : Nat} {x1 : Int32} {x2 : Int32} {x4 : Int32} {x5 : Int32} {x6 : Int32} {σ : Mem} : lp_X3_gap_42 F x1 x2 (N + 1) x4 x5 x6 σ = (
  if (σ 1 2) ≤ x6 then (
    some ((x4 - x5), σ)
  ) else (
    wt_bnd (f_X0_behind F 1 x6 x1 x2 σ) fun r1 s2 =>
    if r1 ≤ x4 then (
      if r1 ≤ x5 then (
        j_X3_gap_96 F (lp_X3_gap_42 F x1 x2 N) x1 x2 x4 x5 x6 s2
      ) else (
        j_X3_gap_96 F (lp_X3_gap_42 F x1 x2 N) x1 x2 x4 r1 x6 s2
      )
    ) else (
      j_X3_gap_96 F (lp_X3_gap_42 F x1 x2 N) x1 x2 r1 x4 x6 s2
    )
  )
  ) := rfl
noncomputable def f_X3_gap (F : Nat) (x1 : Int32) (x2 : Int32) (σ : Mem) : Option (Int32 × Mem) :=
  wt_bnd (f_X3_noView F x1 σ) fun r3 s4 =>
  wt_bnd (f_X3_outside F x2 (0 : Int32) (999 : Int32) s4) fun r5 s6 =>
  wt_bnd (f_X3_firstOf F r3 r5 s6) fun r7 s8 =>
  if r7 = 0 then (
    wt_bnd (f_X0_reckon F 1 s8) fun r9 s10 =>
    lp_X3_gap_42 F x1 x2 F (0 : Int32) (0 : Int32) (0 : Int32) s10
  ) else (
    wt_bnd (f_X3_refuse F r7 s8) fun r11 s12 =>
    some (r11, s12)
  )
theorem f_X3_gap_e {F : Nat} {x1 : Int32} {x2 : Int32} {σ : Mem} : f_X3_gap F x1 x2 σ = (
  wt_bnd (f_X3_noView F x1 σ) fun r3 s4 =>
  wt_bnd (f_X3_outside F x2 (0 : Int32) (999 : Int32) s4) fun r5 s6 =>
  wt_bnd (f_X3_firstOf F r3 r5 s6) fun r7 s8 =>
  if r7 = 0 then (
    wt_bnd (f_X0_reckon F 1 s8) fun r9 s10 =>
    lp_X3_gap_42 F x1 x2 F (0 : Int32) (0 : Int32) (0 : Int32) s10
  ) else (
    wt_bnd (f_X3_refuse F r7 s8) fun r11 s12 =>
    some (r11, s12)
  )
  ) := rfl
noncomputable def j_X3_wasted_117 (F : Nat) (k30 : Int32 → Int32 → Mem → Option (Int32 × Mem)) (x1 : Int32) (x2 : Int32) (x4 : Int32) (x5 : Int32) (σ : Mem) : Option (Int32 × Mem) :=
  k30 x4 (x5 + (1 : Int32)) σ
theorem j_X3_wasted_117_e {F : Nat} {k30 : Int32 → Int32 → Mem → Option (Int32 × Mem)} {x1 : Int32} {x2 : Int32} {x4 : Int32} {x5 : Int32} {σ : Mem} : j_X3_wasted_117 F k30 x1 x2 x4 x5 σ = (
  k30 x4 (x5 + (1 : Int32)) σ
  ) := rfl
noncomputable def j_X3_wasted_108 (F : Nat) (k30 : Int32 → Int32 → Mem → Option (Int32 × Mem)) (x1 : Int32) (x2 : Int32) (x4 : Int32) (x5 : Int32) (σ : Mem) : Option (Int32 × Mem) :=
  wt_lt (x4 ||| ((1 : Int32) <<< (x5 &&& 31))) fun z1 =>
  j_X3_wasted_117 F k30 x1 x2 z1 x5 σ
theorem j_X3_wasted_108_e {F : Nat} {k30 : Int32 → Int32 → Mem → Option (Int32 × Mem)} {x1 : Int32} {x2 : Int32} {x4 : Int32} {x5 : Int32} {σ : Mem} : j_X3_wasted_108 F k30 x1 x2 x4 x5 σ = (
  wt_lt (x4 ||| ((1 : Int32) <<< (x5 &&& 31))) fun z1 =>
  j_X3_wasted_117 F k30 x1 x2 z1 x5 σ
  ) := rfl
noncomputable def j_X3_wasted_79 (F : Nat) (k30 : Int32 → Int32 → Mem → Option (Int32 × Mem)) (x1 : Int32) (x2 : Int32) (x4 : Int32) (x5 : Int32) (x6 : Int32) (t0 : Int32) (σ : Mem) : Option (Int32 × Mem) :=
  if x2 = 0 then (
    if x6 = 0 then (
      j_X3_wasted_117 F k30 x1 x2 x4 x5 σ
    ) else (
      if t0 = 0 then (
        j_X3_wasted_108 F k30 x1 x2 x4 x5 σ
      ) else (
        j_X3_wasted_117 F k30 x1 x2 x4 x5 σ
      )
    )
  ) else (
    if x6 = 0 then (
      if t0 = 0 then (
        j_X3_wasted_117 F k30 x1 x2 x4 x5 σ
      ) else (
        j_X3_wasted_108 F k30 x1 x2 x4 x5 σ
      )
    ) else (
      j_X3_wasted_117 F k30 x1 x2 x4 x5 σ
    )
  )
theorem j_X3_wasted_79_e {F : Nat} {k30 : Int32 → Int32 → Mem → Option (Int32 × Mem)} {x1 : Int32} {x2 : Int32} {x4 : Int32} {x5 : Int32} {x6 : Int32} {t0 : Int32} {σ : Mem} : j_X3_wasted_79 F k30 x1 x2 x4 x5 x6 t0 σ = (
  if x2 = 0 then (
    if x6 = 0 then (
      j_X3_wasted_117 F k30 x1 x2 x4 x5 σ
    ) else (
      if t0 = 0 then (
        j_X3_wasted_108 F k30 x1 x2 x4 x5 σ
      ) else (
        j_X3_wasted_117 F k30 x1 x2 x4 x5 σ
      )
    )
  ) else (
    if x6 = 0 then (
      if t0 = 0 then (
        j_X3_wasted_117 F k30 x1 x2 x4 x5 σ
      ) else (
        j_X3_wasted_108 F k30 x1 x2 x4 x5 σ
      )
    ) else (
      j_X3_wasted_117 F k30 x1 x2 x4 x5 σ
    )
  )
  ) := rfl
noncomputable def j_X3_wasted_59 (F : Nat) (k30 : Int32 → Int32 → Mem → Option (Int32 × Mem)) (x1 : Int32) (x2 : Int32) (x4 : Int32) (x5 : Int32) (t0 : Int32) (σ : Mem) : Option (Int32 × Mem) :=
  wt_bnd (f_X0_pull F 1 x1 x5 σ) fun r2 s3 =>
  if r2 ≤ 0 then (
    j_X3_wasted_79 F k30 x1 x2 x4 x5 t0 (0 : Int32) s3
  ) else (
    j_X3_wasted_79 F k30 x1 x2 x4 x5 t0 (1 : Int32) s3
  )
theorem j_X3_wasted_59_e {F : Nat} {k30 : Int32 → Int32 → Mem → Option (Int32 × Mem)} {x1 : Int32} {x2 : Int32} {x4 : Int32} {x5 : Int32} {t0 : Int32} {σ : Mem} : j_X3_wasted_59 F k30 x1 x2 x4 x5 t0 σ = (
  wt_bnd (f_X0_pull F 1 x1 x5 σ) fun r2 s3 =>
  if r2 ≤ 0 then (
    j_X3_wasted_79 F k30 x1 x2 x4 x5 t0 (0 : Int32) s3
  ) else (
    j_X3_wasted_79 F k30 x1 x2 x4 x5 t0 (1 : Int32) s3
  )
  ) := rfl
noncomputable def lp_X3_wasted_30 (F : Nat) (x1 : Int32) (x2 : Int32) : Nat → Int32 → Int32 → Mem → Option (Int32 × Mem) := fun N => Nat.rec (motive := fun _ => Int32 → Int32 → Mem → Option (Int32 × Mem)) (fun _ _ _ => none) (fun _ ih x4 x5 σ =>
  if (24 : Int32) ≤ x5 then (
    some (x4, σ)
  ) else (
    wt_chk x1 5 <|
    wt_chk x5 24 <|
    if (σ (1 + 5 + Int32.toNatClampNeg x1) (Int32.toNatClampNeg x5)) = (9 : Int32) then (
      j_X3_wasted_59 F ih x1 x2 x4 x5 (0 : Int32) σ
    ) else (
      j_X3_wasted_59 F ih x1 x2 x4 x5 (1 : Int32) σ
    )
  )
  ) N
theorem lp_X3_wasted_30_s {F N : Nat} {x1 : Int32} {x2 : Int32} {x4 : Int32} {x5 : Int32} {σ : Mem} : lp_X3_wasted_30 F x1 x2 (N + 1) x4 x5 σ = (
  if (24 : Int32) ≤ x5 then (
    some (x4, σ)
  ) else (
    wt_chk x1 5 <|
    wt_chk x5 24 <|
    if (σ (1 + 5 + Int32.toNatClampNeg x1) (Int32.toNatClampNeg x5)) = (9 : Int32) then (
      j_X3_wasted_59 F (lp_X3_wasted_30 F x1 x2 N) x1 x2 x4 x5 (0 : Int32) σ
    ) else (
      j_X3_wasted_59 F (lp_X3_wasted_30 F x1 x2 N) x1 x2 x4 x5 (1 : Int32) σ
    )
  )
  ) := rfl
noncomputable def f_X3_wasted (F : Nat) (x1 : Int32) (x2 : Int32) (σ : Mem) : Option (Int32 × Mem) :=
  wt_bnd (f_X3_noLooker F x1 σ) fun r6 s7 =>
  wt_bnd (f_X3_notBelow F x2 (2 : Int32) s7) fun r8 s9 =>
  wt_bnd (f_X3_firstOf F r6 r8 s9) fun r10 s11 =>
  if r10 = 0 then (
    lp_X3_wasted_30 F x1 x2 F (0 : Int32) (0 : Int32) s11
  ) else (
    wt_bnd (f_X3_refuse F r10 s11) fun r12 s13 =>
    some (r12, s13)
  )
theorem f_X3_wasted_e {F : Nat} {x1 : Int32} {x2 : Int32} {σ : Mem} : f_X3_wasted F x1 x2 σ = (
  wt_bnd (f_X3_noLooker F x1 σ) fun r6 s7 =>
  wt_bnd (f_X3_notBelow F x2 (2 : Int32) s7) fun r8 s9 =>
  wt_bnd (f_X3_firstOf F r6 r8 s9) fun r10 s11 =>
  if r10 = 0 then (
    lp_X3_wasted_30 F x1 x2 F (0 : Int32) (0 : Int32) s11
  ) else (
    wt_bnd (f_X3_refuse F r10 s11) fun r12 s13 =>
    some (r12, s13)
  )
  ) := rfl
noncomputable def lp_X3_ahead_27 (F : Nat) (x1 : Int32) (x2 : Int32) : Nat → Int32 → Mem → Option (Int32 × Mem) := fun N => Nat.rec (motive := fun _ => Int32 → Mem → Option (Int32 × Mem)) (fun _ _ => none) (fun _ ih x4 σ =>
  if (999 : Int32) < x4 then (
    some ((-9 : Int32), σ)
  ) else (
    wt_bnd (f_X0_lead F 1 x1 x2 x4 σ) fun r1 s2 =>
    if r1 ≤ 0 then (
      ih (x4 + (1 : Int32)) s2
    ) else (
      some (x4, s2)
    )
  )
  ) N
theorem lp_X3_ahead_27_s {F N : Nat} {x1 : Int32} {x2 : Int32} {x4 : Int32} {σ : Mem} : lp_X3_ahead_27 F x1 x2 (N + 1) x4 σ = (
  if (999 : Int32) < x4 then (
    some ((-9 : Int32), σ)
  ) else (
    wt_bnd (f_X0_lead F 1 x1 x2 x4 σ) fun r1 s2 =>
    if r1 ≤ 0 then (
      (lp_X3_ahead_27 F x1 x2 N) (x4 + (1 : Int32)) s2
    ) else (
      some (x4, s2)
    )
  )
  ) := rfl
noncomputable def f_X3_ahead (F : Nat) (x1 : Int32) (x2 : Int32) (σ : Mem) : Option (Int32 × Mem) :=
  wt_bnd (f_X3_noPair F x1 x2 σ) fun r3 s4 =>
  if r3 = 0 then (
    wt_bnd (f_X0_reckon F 1 s4) fun r5 s6 =>
    lp_X3_ahead_27 F x1 x2 F (0 : Int32) s6
  ) else (
    wt_bnd (f_X3_refuse F r3 s4) fun r7 s8 =>
    some (r7, s8)
  )
theorem f_X3_ahead_e {F : Nat} {x1 : Int32} {x2 : Int32} {σ : Mem} : f_X3_ahead F x1 x2 σ = (
  wt_bnd (f_X3_noPair F x1 x2 σ) fun r3 s4 =>
  if r3 = 0 then (
    wt_bnd (f_X0_reckon F 1 s4) fun r5 s6 =>
    lp_X3_ahead_27 F x1 x2 F (0 : Int32) s6
  ) else (
    wt_bnd (f_X3_refuse F r3 s4) fun r7 s8 =>
    some (r7, s8)
  )
  ) := rfl
noncomputable def j_X3_bestLaw_86 (F : Nat) (k44 : Int32 → Int32 → Int32 → Mem → Option (Int32 × Mem)) (x1 : Int32) (x2 : Int32) (x4 : Int32) (x5 : Int32) (x6 : Int32) (σ : Mem) : Option (Int32 × Mem) :=
  k44 x4 x5 (x6 + (1 : Int32)) σ
theorem j_X3_bestLaw_86_e {F : Nat} {k44 : Int32 → Int32 → Int32 → Mem → Option (Int32 × Mem)} {x1 : Int32} {x2 : Int32} {x4 : Int32} {x5 : Int32} {x6 : Int32} {σ : Mem} : j_X3_bestLaw_86 F k44 x1 x2 x4 x5 x6 σ = (
  k44 x4 x5 (x6 + (1 : Int32)) σ
  ) := rfl
noncomputable def lp_X3_bestLaw_44 (F : Nat) (x1 : Int32) (x2 : Int32) : Nat → Int32 → Int32 → Int32 → Mem → Option (Int32 × Mem) := fun N => Nat.rec (motive := fun _ => Int32 → Int32 → Int32 → Mem → Option (Int32 × Mem)) (fun _ _ _ _ => none) (fun _ ih x4 x5 x6 σ =>
  if (3 : Int32) ≤ x6 then (
    some (x4, σ)
  ) else (
    wt_bnd (f_X0_rule F 24 x6 σ) fun r1 s2 =>
    wt_bnd (f_X0_wealth F 24 x1 x2 s2) fun r3 s4 =>
    if r3 ≤ x5 then (
      j_X3_bestLaw_86 F ih x1 x2 x4 x5 x6 s4
    ) else (
      j_X3_bestLaw_86 F ih x1 x2 x6 r3 x6 s4
    )
  )
  ) N
theorem lp_X3_bestLaw_44_s {F N : Nat} {x1 : Int32} {x2 : Int32} {x4 : Int32} {x5 : Int32} {x6 : Int32} {σ : Mem} : lp_X3_bestLaw_44 F x1 x2 (N + 1) x4 x5 x6 σ = (
  if (3 : Int32) ≤ x6 then (
    some (x4, σ)
  ) else (
    wt_bnd (f_X0_rule F 24 x6 σ) fun r1 s2 =>
    wt_bnd (f_X0_wealth F 24 x1 x2 s2) fun r3 s4 =>
    if r3 ≤ x5 then (
      j_X3_bestLaw_86 F (lp_X3_bestLaw_44 F x1 x2 N) x1 x2 x4 x5 x6 s4
    ) else (
      j_X3_bestLaw_86 F (lp_X3_bestLaw_44 F x1 x2 N) x1 x2 x6 r3 x6 s4
    )
  )
  ) := rfl
noncomputable def f_X3_bestLaw (F : Nat) (x1 : Int32) (x2 : Int32) (σ : Mem) : Option (Int32 × Mem) :=
  wt_bnd (f_X3_noLookerFar F x1 x2 σ) fun r5 s6 =>
  if r5 = 0 then (
    wt_bnd (f_X0_takeFrom F 24 1 s6) fun r7 s8 =>
    wt_bnd (f_X0_reckon F 24 s8) fun r9 s10 =>
    lp_X3_bestLaw_44 F x1 x2 F (0 : Int32) (-1 : Int32) (0 : Int32) s10
  ) else (
    wt_bnd (f_X3_refuse F r5 s6) fun r11 s12 =>
    some (r11, s12)
  )
theorem f_X3_bestLaw_e {F : Nat} {x1 : Int32} {x2 : Int32} {σ : Mem} : f_X3_bestLaw F x1 x2 σ = (
  wt_bnd (f_X3_noLookerFar F x1 x2 σ) fun r5 s6 =>
  if r5 = 0 then (
    wt_bnd (f_X0_takeFrom F 24 1 s6) fun r7 s8 =>
    wt_bnd (f_X0_reckon F 24 s8) fun r9 s10 =>
    lp_X3_bestLaw_44 F x1 x2 F (0 : Int32) (-1 : Int32) (0 : Int32) s10
  ) else (
    wt_bnd (f_X3_refuse F r5 s6) fun r11 s12 =>
    some (r11, s12)
  )
  ) := rfl
noncomputable def lp_X3_newcomer_112 (F : Nat) (x3 : Int32) (x5 : Int32) : Nat → Int32 → Mem → Option (Int32 × Mem) := fun N => Nat.rec (motive := fun _ => Int32 → Mem → Option (Int32 × Mem)) (fun _ _ => none) (fun _ ih x6 σ =>
  if (999 : Int32) < x6 then (
    some ((-9 : Int32), σ)
  ) else (
    wt_bnd (f_X0_firstHolding F 24 x5 x6 σ) fun r1 s2 =>
    if r1 = (-9 : Int32) then (
      ih (x6 + (1 : Int32)) s2
    ) else (
      if x3 = 0 then (
        some (x6, s2)
      ) else (
        some (r1, s2)
      )
    )
  )
  ) N
theorem lp_X3_newcomer_112_s {F N : Nat} {x3 : Int32} {x5 : Int32} {x6 : Int32} {σ : Mem} : lp_X3_newcomer_112 F x3 x5 (N + 1) x6 σ = (
  if (999 : Int32) < x6 then (
    some ((-9 : Int32), σ)
  ) else (
    wt_bnd (f_X0_firstHolding F 24 x5 x6 σ) fun r1 s2 =>
    if r1 = (-9 : Int32) then (
      (lp_X3_newcomer_112 F x3 x5 N) (x6 + (1 : Int32)) s2
    ) else (
      if x3 = 0 then (
        some (x6, s2)
      ) else (
        some (r1, s2)
      )
    )
  )
  ) := rfl
noncomputable def j_X3_newcomer_44 (F : Nat) (x1 : Int32) (x2 : Int32) (x3 : Int32) (x4 : Int32) (σ : Mem) : Option (Int32 × Mem) :=
  if x4 = 0 then (
    wt_bnd (f_X0_takeFrom F 24 1 σ) fun r3 s4 =>
    wt_bnd (f_X0_addLooker F 24 x1 (5 : Int32) s4) fun r5 s6 =>
    wt_lt ((s6 24 2) - (1 : Int32)) fun z7 =>
    wt_bnd (f_X0_post F 24 z7 (0 : Int32) (23 : Int32) x2 s6) fun r8 s9 =>
    wt_bnd (f_X0_reckon F 24 s9) fun r10 s11 =>
    lp_X3_newcomer_112 F x3 z7 F (0 : Int32) s11
  ) else (
    wt_bnd (f_X3_refuse F x4 σ) fun r12 s13 =>
    some (r12, s13)
  )
theorem j_X3_newcomer_44_e {F : Nat} {x1 : Int32} {x2 : Int32} {x3 : Int32} {x4 : Int32} {σ : Mem} : j_X3_newcomer_44 F x1 x2 x3 x4 σ = (
  if x4 = 0 then (
    wt_bnd (f_X0_takeFrom F 24 1 σ) fun r3 s4 =>
    wt_bnd (f_X0_addLooker F 24 x1 (5 : Int32) s4) fun r5 s6 =>
    wt_lt ((s6 24 2) - (1 : Int32)) fun z7 =>
    wt_bnd (f_X0_post F 24 z7 (0 : Int32) (23 : Int32) x2 s6) fun r8 s9 =>
    wt_bnd (f_X0_reckon F 24 s9) fun r10 s11 =>
    lp_X3_newcomer_112 F x3 z7 F (0 : Int32) s11
  ) else (
    wt_bnd (f_X3_refuse F x4 σ) fun r12 s13 =>
    some (r12, s13)
  )
  ) := rfl
noncomputable def f_X3_newcomer (F : Nat) (x1 : Int32) (x2 : Int32) (x3 : Int32) (σ : Mem) : Option (Int32 × Mem) :=
  wt_bnd (f_X3_noPane F x2 σ) fun r14 s15 =>
  wt_bnd (f_X3_notBelow F x1 (6 : Int32) s15) fun r16 s17 =>
  wt_bnd (f_X3_notBelow F x3 (2 : Int32) s17) fun r18 s19 =>
  wt_bnd (f_X3_firstOf F r16 r18 s19) fun r20 s21 =>
  wt_bnd (f_X3_firstOf F r14 r20 s21) fun r22 s23 =>
  if r22 = 0 then (
    if (s23 1 2) < (5 : Int32) then (
      j_X3_newcomer_44 F x1 x2 x3 r22 s23
    ) else (
      j_X3_newcomer_44 F x1 x2 x3 (-3 : Int32) s23
    )
  ) else (
    j_X3_newcomer_44 F x1 x2 x3 r22 s23
  )
theorem f_X3_newcomer_e {F : Nat} {x1 : Int32} {x2 : Int32} {x3 : Int32} {σ : Mem} : f_X3_newcomer F x1 x2 x3 σ = (
  wt_bnd (f_X3_noPane F x2 σ) fun r14 s15 =>
  wt_bnd (f_X3_notBelow F x1 (6 : Int32) s15) fun r16 s17 =>
  wt_bnd (f_X3_notBelow F x3 (2 : Int32) s17) fun r18 s19 =>
  wt_bnd (f_X3_firstOf F r16 r18 s19) fun r20 s21 =>
  wt_bnd (f_X3_firstOf F r14 r20 s21) fun r22 s23 =>
  if r22 = 0 then (
    if (s23 1 2) < (5 : Int32) then (
      j_X3_newcomer_44 F x1 x2 x3 r22 s23
    ) else (
      j_X3_newcomer_44 F x1 x2 x3 (-3 : Int32) s23
    )
  ) else (
    j_X3_newcomer_44 F x1 x2 x3 r22 s23
  )
  ) := rfl
noncomputable def j_X3_mostSeen_63 (F : Nat) (k31 : Int32 → Int32 → Int32 → Mem → Option (Int32 × Mem)) (x1 : Int32) (x3 : Int32) (x4 : Int32) (x5 : Int32) (σ : Mem) : Option (Int32 × Mem) :=
  k31 x3 x4 (x5 + (1 : Int32)) σ
theorem j_X3_mostSeen_63_e {F : Nat} {k31 : Int32 → Int32 → Int32 → Mem → Option (Int32 × Mem)} {x1 : Int32} {x3 : Int32} {x4 : Int32} {x5 : Int32} {σ : Mem} : j_X3_mostSeen_63 F k31 x1 x3 x4 x5 σ = (
  k31 x3 x4 (x5 + (1 : Int32)) σ
  ) := rfl
noncomputable def lp_X3_mostSeen_31 (F : Nat) (x1 : Int32) : Nat → Int32 → Int32 → Int32 → Mem → Option (Int32 × Mem) := fun N => Nat.rec (motive := fun _ => Int32 → Int32 → Int32 → Mem → Option (Int32 × Mem)) (fun _ _ _ _ => none) (fun _ ih x3 x4 x5 σ =>
  if (8 : Int32) ≤ x5 then (
    if x1 = 0 then (
      some (x3, σ)
    ) else (
      some (x4, σ)
    )
  ) else (
    wt_bnd (f_X0_gainOfAll F 1 x5 σ) fun r1 s2 =>
    if r1 ≤ x4 then (
      j_X3_mostSeen_63 F ih x1 x3 x4 x5 s2
    ) else (
      j_X3_mostSeen_63 F ih x1 x5 r1 x5 s2
    )
  )
  ) N
theorem lp_X3_mostSeen_31_s {F N : Nat} {x1 : Int32} {x3 : Int32} {x4 : Int32} {x5 : Int32} {σ : Mem} : lp_X3_mostSeen_31 F x1 (N + 1) x3 x4 x5 σ = (
  if (8 : Int32) ≤ x5 then (
    if x1 = 0 then (
      some (x3, σ)
    ) else (
      some (x4, σ)
    )
  ) else (
    wt_bnd (f_X0_gainOfAll F 1 x5 σ) fun r1 s2 =>
    if r1 ≤ x4 then (
      j_X3_mostSeen_63 F (lp_X3_mostSeen_31 F x1 N) x1 x3 x4 x5 s2
    ) else (
      j_X3_mostSeen_63 F (lp_X3_mostSeen_31 F x1 N) x1 x5 r1 x5 s2
    )
  )
  ) := rfl
noncomputable def f_X3_mostSeen (F : Nat) (x1 : Int32) (σ : Mem) : Option (Int32 × Mem) :=
  wt_bnd (f_X3_notBelow F x1 (2 : Int32) σ) fun r3 s4 =>
  if r3 = 0 then (
    wt_bnd (f_X0_reckon F 1 s4) fun r5 s6 =>
    lp_X3_mostSeen_31 F x1 F (0 : Int32) (0 : Int32) (0 : Int32) s6
  ) else (
    wt_bnd (f_X3_refuse F r3 s4) fun r7 s8 =>
    some (r7, s8)
  )
theorem f_X3_mostSeen_e {F : Nat} {x1 : Int32} {σ : Mem} : f_X3_mostSeen F x1 σ = (
  wt_bnd (f_X3_notBelow F x1 (2 : Int32) σ) fun r3 s4 =>
  if r3 = 0 then (
    wt_bnd (f_X0_reckon F 1 s4) fun r5 s6 =>
    lp_X3_mostSeen_31 F x1 F (0 : Int32) (0 : Int32) (0 : Int32) s6
  ) else (
    wt_bnd (f_X3_refuse F r3 s4) fun r7 s8 =>
    some (r7, s8)
  )
  ) := rfl
noncomputable def j_X3_duels_70 (F : Nat) (k30 : Int32 → Int32 → Mem → Option (Int32 × Mem)) (x1 : Int32) (x2 : Int32) (x4 : Int32) (x5 : Int32) (σ : Mem) : Option (Int32 × Mem) :=
  k30 x4 (x5 + (1 : Int32)) σ
theorem j_X3_duels_70_e {F : Nat} {k30 : Int32 → Int32 → Mem → Option (Int32 × Mem)} {x1 : Int32} {x2 : Int32} {x4 : Int32} {x5 : Int32} {σ : Mem} : j_X3_duels_70 F k30 x1 x2 x4 x5 σ = (
  k30 x4 (x5 + (1 : Int32)) σ
  ) := rfl
noncomputable def lp_X3_duels_30 (F : Nat) (x1 : Int32) (x2 : Int32) : Nat → Int32 → Int32 → Mem → Option (Int32 × Mem) := fun N => Nat.rec (motive := fun _ => Int32 → Int32 → Mem → Option (Int32 × Mem)) (fun _ _ _ => none) (fun _ ih x4 x5 σ =>
  if (8 : Int32) ≤ x5 then (
    some (x4, σ)
  ) else (
    wt_chk x1 5 <|
    wt_chk x5 8 <|
    if (σ (1 + 18 + Int32.toNatClampNeg x1) (Int32.toNatClampNeg x5)) ≤ 0 then (
      j_X3_duels_70 F ih x1 x2 x4 x5 σ
    ) else (
      wt_chk x2 5 <|
      if (σ (1 + 18 + Int32.toNatClampNeg x2) (Int32.toNatClampNeg x5)) ≤ 0 then (
        j_X3_duels_70 F ih x1 x2 x4 x5 σ
      ) else (
        j_X3_duels_70 F ih x1 x2 (x4 + (1 : Int32)) x5 σ
      )
    )
  )
  ) N
theorem lp_X3_duels_30_s {F N : Nat} {x1 : Int32} {x2 : Int32} {x4 : Int32} {x5 : Int32} {σ : Mem} : lp_X3_duels_30 F x1 x2 (N + 1) x4 x5 σ = (
  if (8 : Int32) ≤ x5 then (
    some (x4, σ)
  ) else (
    wt_chk x1 5 <|
    wt_chk x5 8 <|
    if (σ (1 + 18 + Int32.toNatClampNeg x1) (Int32.toNatClampNeg x5)) ≤ 0 then (
      j_X3_duels_70 F (lp_X3_duels_30 F x1 x2 N) x1 x2 x4 x5 σ
    ) else (
      wt_chk x2 5 <|
      if (σ (1 + 18 + Int32.toNatClampNeg x2) (Int32.toNatClampNeg x5)) ≤ 0 then (
        j_X3_duels_70 F (lp_X3_duels_30 F x1 x2 N) x1 x2 x4 x5 σ
      ) else (
        j_X3_duels_70 F (lp_X3_duels_30 F x1 x2 N) x1 x2 (x4 + (1 : Int32)) x5 σ
      )
    )
  )
  ) := rfl
noncomputable def f_X3_duels (F : Nat) (x1 : Int32) (x2 : Int32) (σ : Mem) : Option (Int32 × Mem) :=
  wt_bnd (f_X3_noPair F x1 x2 σ) fun r4 s5 =>
  if r4 = 0 then (
    wt_bnd (f_X0_reckon F 1 s5) fun r6 s7 =>
    lp_X3_duels_30 F x1 x2 F (0 : Int32) (0 : Int32) s7
  ) else (
    wt_bnd (f_X3_refuse F r4 s5) fun r8 s9 =>
    some (r8, s9)
  )
theorem f_X3_duels_e {F : Nat} {x1 : Int32} {x2 : Int32} {σ : Mem} : f_X3_duels F x1 x2 σ = (
  wt_bnd (f_X3_noPair F x1 x2 σ) fun r4 s5 =>
  if r4 = 0 then (
    wt_bnd (f_X0_reckon F 1 s5) fun r6 s7 =>
    lp_X3_duels_30 F x1 x2 F (0 : Int32) (0 : Int32) s7
  ) else (
    wt_bnd (f_X3_refuse F r4 s5) fun r8 s9 =>
    some (r8, s9)
  )
  ) := rfl
noncomputable def j_X3_row_24 (F : Nat) (x1 : Int32) (x2 : Int32) (σ : Mem) : Option (Int32 × Mem) :=
  if x2 = 0 then (
    wt_chk (σ 0 7) 12 <|
    wt_lt (up2 σ 85 (Int32.toNatClampNeg (σ 0 7)) x1) fun s2 =>
    wt_lt (up2 s2 0 7 ((s2 0 7) + (1 : Int32))) fun s3 =>
    some ((s3 0 7), s3)
  ) else (
    wt_bnd (f_X3_refuse F x2 σ) fun r4 s5 =>
    some (r4, s5)
  )
theorem j_X3_row_24_e {F : Nat} {x1 : Int32} {x2 : Int32} {σ : Mem} : j_X3_row_24 F x1 x2 σ = (
  if x2 = 0 then (
    wt_chk (σ 0 7) 12 <|
    wt_lt (up2 σ 85 (Int32.toNatClampNeg (σ 0 7)) x1) fun s2 =>
    wt_lt (up2 s2 0 7 ((s2 0 7) + (1 : Int32))) fun s3 =>
    some ((s3 0 7), s3)
  ) else (
    wt_bnd (f_X3_refuse F x2 σ) fun r4 s5 =>
    some (r4, s5)
  )
  ) := rfl
noncomputable def f_X3_row (F : Nat) (x1 : Int32) (σ : Mem) : Option (Int32 × Mem) :=
  wt_bnd (f_X3_outside F x1 (0 : Int32) (99 : Int32) σ) fun r6 s7 =>
  if r6 = 0 then (
    if (s7 0 7) < (12 : Int32) then (
      j_X3_row_24 F x1 r6 s7
    ) else (
      j_X3_row_24 F x1 (-6 : Int32) s7
    )
  ) else (
    j_X3_row_24 F x1 r6 s7
  )
theorem f_X3_row_e {F : Nat} {x1 : Int32} {σ : Mem} : f_X3_row F x1 σ = (
  wt_bnd (f_X3_outside F x1 (0 : Int32) (99 : Int32) σ) fun r6 s7 =>
  if r6 = 0 then (
    if (s7 0 7) < (12 : Int32) then (
      j_X3_row_24 F x1 r6 s7
    ) else (
      j_X3_row_24 F x1 (-6 : Int32) s7
    )
  ) else (
    j_X3_row_24 F x1 r6 s7
  )
  ) := rfl
noncomputable def j_X3_judge_62 (F : Nat) (k25 : Int32 → Int32 → Mem → Option (Int32 × Mem)) (x1 : Int32) (x2 : Int32) (x3 : Int32) (σ : Mem) : Option (Int32 × Mem) :=
  k25 x2 (x3 + (1 : Int32)) σ
theorem j_X3_judge_62_e {F : Nat} {k25 : Int32 → Int32 → Mem → Option (Int32 × Mem)} {x1 : Int32} {x2 : Int32} {x3 : Int32} {σ : Mem} : j_X3_judge_62 F k25 x1 x2 x3 σ = (
  k25 x2 (x3 + (1 : Int32)) σ
  ) := rfl
noncomputable def j_X3_judge_68 (F : Nat) (x2 : Int32) (σ : Mem) : Option (Int32 × Mem) :=
  wt_lt (up2 σ 0 7 (0 : Int32)) fun s1 =>
  some (x2, s1)
theorem j_X3_judge_68_e {F : Nat} {x2 : Int32} {σ : Mem} : j_X3_judge_68 F x2 σ = (
  wt_lt (up2 σ 0 7 (0 : Int32)) fun s1 =>
  some (x2, s1)
  ) := rfl
noncomputable def lp_X3_judge_25 (F : Nat) (x1 : Int32) : Nat → Int32 → Int32 → Mem → Option (Int32 × Mem) := fun N => Nat.rec (motive := fun _ => Int32 → Int32 → Mem → Option (Int32 × Mem)) (fun _ _ _ => none) (fun _ ih x2 x3 σ =>
  if (σ 0 7) ≤ x3 then (
    j_X3_judge_68 F x2 σ
  ) else (
    if x2 = (-9 : Int32) then (
      wt_chk x3 12 <|
      wt_bnd (f_X0_holder F 1 x1 x3 σ) fun r3 s4 =>
      wt_bnd (f_X3_inRow F r3 s4) fun r5 s6 =>
      if (σ 85 (Int32.toNatClampNeg x3)) = r5 then (
        j_X3_judge_62 F ih x1 x2 x3 s6
      ) else (
        j_X3_judge_62 F ih x1 x3 x3 s6
      )
    ) else (
      j_X3_judge_68 F x2 σ
    )
  )
  ) N
theorem lp_X3_judge_25_s {F N : Nat} {x1 : Int32} {x2 : Int32} {x3 : Int32} {σ : Mem} : lp_X3_judge_25 F x1 (N + 1) x2 x3 σ = (
  if (σ 0 7) ≤ x3 then (
    j_X3_judge_68 F x2 σ
  ) else (
    if x2 = (-9 : Int32) then (
      wt_chk x3 12 <|
      wt_bnd (f_X0_holder F 1 x1 x3 σ) fun r3 s4 =>
      wt_bnd (f_X3_inRow F r3 s4) fun r5 s6 =>
      if (σ 85 (Int32.toNatClampNeg x3)) = r5 then (
        j_X3_judge_62 F (lp_X3_judge_25 F x1 N) x1 x2 x3 s6
      ) else (
        j_X3_judge_62 F (lp_X3_judge_25 F x1 N) x1 x3 x3 s6
      )
    ) else (
      j_X3_judge_68 F x2 σ
    )
  )
  ) := rfl
noncomputable def f_X3_judge (F : Nat) (x1 : Int32) (σ : Mem) : Option (Int32 × Mem) :=
  wt_bnd (f_X0_isView F x1 σ) fun r7 s8 =>
  if r7 = 0 then (
    wt_bnd (f_X3_refuse F (-1 : Int32) s8) fun r11 s12 =>
    some (r11, s12)
  ) else (
    wt_bnd (f_X0_reckon F 1 s8) fun r9 s10 =>
    lp_X3_judge_25 F x1 F (-9 : Int32) (0 : Int32) s10
  )
theorem f_X3_judge_e {F : Nat} {x1 : Int32} {σ : Mem} : f_X3_judge F x1 σ = (
  wt_bnd (f_X0_isView F x1 σ) fun r7 s8 =>
  if r7 = 0 then (
    wt_bnd (f_X3_refuse F (-1 : Int32) s8) fun r11 s12 =>
    some (r11, s12)
  ) else (
    wt_bnd (f_X0_reckon F 1 s8) fun r9 s10 =>
    lp_X3_judge_25 F x1 F (-9 : Int32) (0 : Int32) s10
  )
  ) := rfl
noncomputable def f_X3_clear (F : Nat) (σ : Mem) : Option (Int32 × Mem) :=
  wt_lt (up2 σ 0 7 (0 : Int32)) fun s1 =>
  some ((σ 0 7), s1)
theorem f_X3_clear_e {F : Nat} {σ : Mem} : f_X3_clear F σ = (
  wt_lt (up2 σ 0 7 (0 : Int32)) fun s1 =>
  some ((σ 0 7), s1)
  ) := rfl
noncomputable def f_X3_nextSeed (F : Nat) (x0 : Int32) (σ : Mem) : Option (Int32 × Mem) :=
  some (((x0 * (1103515245 : Int32)) + (12345 : Int32)), σ)
theorem f_X3_nextSeed_e {F : Nat} {x0 : Int32} {σ : Mem} : f_X3_nextSeed F x0 σ = (
  some (((x0 * (1103515245 : Int32)) + (12345 : Int32)), σ)
  ) := rfl
noncomputable def f_X3_drawBelow (F : Nat) (x0 : Int32) (x1 : Int32) (σ : Mem) : Option (Int32 × Mem) :=
  if 0 < x1 then (
    wt_nz x1 <|
    some ((((x0 &&& (2147483647 : Int32)) / (65536 : Int32)) - ((x0 &&& (2147483647 : Int32)) / (65536 : Int32)) / x1 * x1), σ)
  ) else (
    some ((0 : Int32), σ)
  )
theorem f_X3_drawBelow_e {F : Nat} {x0 : Int32} {x1 : Int32} {σ : Mem} : f_X3_drawBelow F x0 x1 σ = (
  if 0 < x1 then (
    wt_nz x1 <|
    some ((((x0 &&& (2147483647 : Int32)) / (65536 : Int32)) - ((x0 &&& (2147483647 : Int32)) / (65536 : Int32)) / x1 * x1), σ)
  ) else (
    some ((0 : Int32), σ)
  )
  ) := rfl
noncomputable def lp_X3_castRosters_32 (F : Nat) (k4 : Int32 → Int32 → Mem → Option (Int32 × Mem)) (x3 : Int32) : Nat → Int32 → Int32 → Mem → Option (Int32 × Mem) := fun N => Nat.rec (motive := fun _ => Int32 → Int32 → Mem → Option (Int32 × Mem)) (fun _ _ _ => none) (fun _ ih x2 x4 σ =>
  if (4 : Int32) ≤ x4 then (
    k4 x2 (x3 + (1 : Int32)) σ
  ) else (
    wt_bnd (f_X3_nextSeed F x2 σ) fun r1 s2 =>
    wt_bnd (f_X3_drawBelow F r1 (24 : Int32) s2) fun r3 s4 =>
    wt_bnd (f_X3_nextSeed F r1 s4) fun r5 s6 =>
    wt_lt (wt_min ((r3 + (4 : Int32)) - (1 : Int32)) (23 : Int32)) fun z7 =>
    wt_bnd (f_X3_drawBelow F r5 (s6 24 0) s6) fun r8 s9 =>
    wt_bnd (f_X0_post F 24 x3 r3 z7 r8 s9) fun r10 s11 =>
    ih r5 (x4 + (1 : Int32)) s11
  )
  ) N
theorem lp_X3_castRosters_32_s {F N : Nat} {k4 : Int32 → Int32 → Mem → Option (Int32 × Mem)} {x3 : Int32} {x2 : Int32} {x4 : Int32} {σ : Mem} : lp_X3_castRosters_32 F k4 x3 (N + 1) x2 x4 σ = (
  if (4 : Int32) ≤ x4 then (
    k4 x2 (x3 + (1 : Int32)) σ
  ) else (
    wt_bnd (f_X3_nextSeed F x2 σ) fun r1 s2 =>
    wt_bnd (f_X3_drawBelow F r1 (24 : Int32) s2) fun r3 s4 =>
    wt_bnd (f_X3_nextSeed F r1 s4) fun r5 s6 =>
    wt_lt (wt_min ((r3 + (4 : Int32)) - (1 : Int32)) (23 : Int32)) fun z7 =>
    wt_bnd (f_X3_drawBelow F r5 (s6 24 0) s6) fun r8 s9 =>
    wt_bnd (f_X0_post F 24 x3 r3 z7 r8 s9) fun r10 s11 =>
    (lp_X3_castRosters_32 F k4 x3 N) r5 (x4 + (1 : Int32)) s11
  )
  ) := rfl
noncomputable def lp_X3_castRosters_4 (F : Nat) : Nat → Int32 → Int32 → Mem → Option (Int32 × Mem) := fun N => Nat.rec (motive := fun _ => Int32 → Int32 → Mem → Option (Int32 × Mem)) (fun _ _ _ => none) (fun _ ih x2 x3 σ =>
  if (σ 24 2) ≤ x3 then (
    some (x2, σ)
  ) else (
    wt_bnd (f_X0_post F 24 x3 (0 : Int32) (23 : Int32) (9 : Int32) σ) fun r12 s13 =>
    lp_X3_castRosters_32 F ih x3 F x2 (0 : Int32) s13
  )
  ) N
theorem lp_X3_castRosters_4_s {F N : Nat} {x2 : Int32} {x3 : Int32} {σ : Mem} : lp_X3_castRosters_4 F (N + 1) x2 x3 σ = (
  if (σ 24 2) ≤ x3 then (
    some (x2, σ)
  ) else (
    wt_bnd (f_X0_post F 24 x3 (0 : Int32) (23 : Int32) (9 : Int32) σ) fun r12 s13 =>
    lp_X3_castRosters_32 F (lp_X3_castRosters_4 F N) x3 F x2 (0 : Int32) s13
  )
  ) := rfl
noncomputable def f_X3_castRosters (F : Nat) (x1 : Int32) (σ : Mem) : Option (Int32 × Mem) :=
  lp_X3_castRosters_4 F F x1 (0 : Int32) σ
theorem f_X3_castRosters_e {F : Nat} {x1 : Int32} {σ : Mem} : f_X3_castRosters F x1 σ = (
  lp_X3_castRosters_4 F F x1 (0 : Int32) σ
  ) := rfl
noncomputable def j_X3_lots_140 (F : Nat) (k61 : Int32 → Int32 → Int32 → Mem → Option (Int32 × Mem)) (x1 : Int32) (x3 : Int32) (x5 : Int32) (x6 : Int32) (x7 : Int32) (σ : Mem) : Option (Int32 × Mem) :=
  k61 x5 x6 (x7 + (1 : Int32)) σ
theorem j_X3_lots_140_e {F : Nat} {k61 : Int32 → Int32 → Int32 → Mem → Option (Int32 × Mem)} {x1 : Int32} {x3 : Int32} {x5 : Int32} {x6 : Int32} {x7 : Int32} {σ : Mem} : j_X3_lots_140 F k61 x1 x3 x5 x6 x7 σ = (
  k61 x5 x6 (x7 + (1 : Int32)) σ
  ) := rfl
noncomputable def lp_X3_lots_61 (F : Nat) (x1 : Int32) (x3 : Int32) : Nat → Int32 → Int32 → Int32 → Mem → Option (Int32 × Mem) := fun N => Nat.rec (motive := fun _ => Int32 → Int32 → Int32 → Mem → Option (Int32 × Mem)) (fun _ _ _ _ => none) (fun _ ih x5 x6 x7 σ =>
  if x1 ≤ x7 then (
    some (x6, σ)
  ) else (
    wt_bnd (f_X3_castRosters F x5 σ) fun r1 s2 =>
    wt_bnd (f_X0_reckon F 24 s2) fun r3 s4 =>
    wt_bnd (f_X0_wealthiest F 24 (99 : Int32) s4) fun r5 s6 =>
    if x3 = 0 then (
      wt_bnd (f_X0_held F 24 (99 : Int32) s6) fun r9 s10 =>
      wt_bnd (f_J6_bitCount_0f7a4 F r9 s10) fun r11 s12 =>
      j_X3_lots_140 F ih x1 x3 r1 (x6 + r11) x7 s12
    ) else (
      if r5 = (-9 : Int32) then (
        j_X3_lots_140 F ih x1 x3 r1 x6 x7 s6
      ) else (
        wt_bnd (f_X0_wealth F 24 r5 (99 : Int32) s6) fun r7 s8 =>
        j_X3_lots_140 F ih x1 x3 r1 (x6 + r7) x7 s8
      )
    )
  )
  ) N
theorem lp_X3_lots_61_s {F N : Nat} {x1 : Int32} {x3 : Int32} {x5 : Int32} {x6 : Int32} {x7 : Int32} {σ : Mem} : lp_X3_lots_61 F x1 x3 (N + 1) x5 x6 x7 σ = (
  if x1 ≤ x7 then (
    some (x6, σ)
  ) else (
    wt_bnd (f_X3_castRosters F x5 σ) fun r1 s2 =>
    wt_bnd (f_X0_reckon F 24 s2) fun r3 s4 =>
    wt_bnd (f_X0_wealthiest F 24 (99 : Int32) s4) fun r5 s6 =>
    if x3 = 0 then (
      wt_bnd (f_X0_held F 24 (99 : Int32) s6) fun r9 s10 =>
      wt_bnd (f_J6_bitCount_0f7a4 F r9 s10) fun r11 s12 =>
      j_X3_lots_140 F (lp_X3_lots_61 F x1 x3 N) x1 x3 r1 (x6 + r11) x7 s12
    ) else (
      if r5 = (-9 : Int32) then (
        j_X3_lots_140 F (lp_X3_lots_61 F x1 x3 N) x1 x3 r1 x6 x7 s6
      ) else (
        wt_bnd (f_X0_wealth F 24 r5 (99 : Int32) s6) fun r7 s8 =>
        j_X3_lots_140 F (lp_X3_lots_61 F x1 x3 N) x1 x3 r1 (x6 + r7) x7 s8
      )
    )
  )
  ) := rfl
noncomputable def f_X3_lots (F : Nat) (x1 : Int32) (x2 : Int32) (x3 : Int32) (σ : Mem) : Option (Int32 × Mem) :=
  wt_bnd (f_X3_outside F x1 (1 : Int32) (20 : Int32) σ) fun r13 s14 =>
  wt_bnd (f_X3_notBelow F x3 (2 : Int32) s14) fun r15 s16 =>
  wt_bnd (f_X3_firstOf F r13 r15 s16) fun r17 s18 =>
  if r17 = 0 then (
    if (s18 1 0) = 0 then (
      some ((0 : Int32), s18)
    ) else (
      wt_bnd (f_X0_takeFrom F 24 1 s18) fun r19 s20 =>
      lp_X3_lots_61 F x1 x3 F x2 (0 : Int32) (0 : Int32) s20
    )
  ) else (
    wt_bnd (f_X3_refuse F r17 s18) fun r21 s22 =>
    some (r21, s22)
  )
theorem f_X3_lots_e {F : Nat} {x1 : Int32} {x2 : Int32} {x3 : Int32} {σ : Mem} : f_X3_lots F x1 x2 x3 σ = (
  wt_bnd (f_X3_outside F x1 (1 : Int32) (20 : Int32) σ) fun r13 s14 =>
  wt_bnd (f_X3_notBelow F x3 (2 : Int32) s14) fun r15 s16 =>
  wt_bnd (f_X3_firstOf F r13 r15 s16) fun r17 s18 =>
  if r17 = 0 then (
    if (s18 1 0) = 0 then (
      some ((0 : Int32), s18)
    ) else (
      wt_bnd (f_X0_takeFrom F 24 1 s18) fun r19 s20 =>
      lp_X3_lots_61 F x1 x3 F x2 (0 : Int32) (0 : Int32) s20
    )
  ) else (
    wt_bnd (f_X3_refuse F r17 s18) fun r21 s22 =>
    some (r21, s22)
  )
  ) := rfl
noncomputable def f_X3_image (F : Nat) (σ : Mem) : Option (Int32 × Mem) :=
  wt_bnd (f_X0_takeFrom F 47 1 σ) fun r1 s2 =>
  wt_lt (up2 s2 0 3 (1 : Int32)) fun s3 =>
  some ((s3 1 9), s3)
theorem f_X3_image_e {F : Nat} {σ : Mem} : f_X3_image F σ = (
  wt_bnd (f_X0_takeFrom F 47 1 σ) fun r1 s2 =>
  wt_lt (up2 s2 0 3 (1 : Int32)) fun s3 =>
  some ((s3 1 9), s3)
  ) := rfl
noncomputable def f_X3_restore (F : Nat) (σ : Mem) : Option (Int32 × Mem) :=
  if (σ 0 3) = 0 then (
    wt_bnd (f_X3_refuse F (-3 : Int32) σ) fun r5 s6 =>
    some (r5, s6)
  ) else (
    wt_bnd (f_X0_takeFrom F 1 47 σ) fun r1 s2 =>
    wt_bnd (f_X2_forget F s2) fun r3 s4 =>
    some ((s4 1 9), s4)
  )
theorem f_X3_restore_e {F : Nat} {σ : Mem} : f_X3_restore F σ = (
  if (σ 0 3) = 0 then (
    wt_bnd (f_X3_refuse F (-3 : Int32) σ) fun r5 s6 =>
    some (r5, s6)
  ) else (
    wt_bnd (f_X0_takeFrom F 1 47 σ) fun r1 s2 =>
    wt_bnd (f_X2_forget F s2) fun r3 s4 =>
    some ((s4 1 9), s4)
  )
  ) := rfl
noncomputable def j_X3_count_22 (F : Nat) (x1 : Int32) (σ : Mem) : Option (Int32 × Mem) :=
  if x1 = (0 : Int32) then (
    some ((σ 1 0), σ)
  ) else
  if x1 = (1 : Int32) then (
    some ((σ 1 2), σ)
  ) else
  if x1 = (2 : Int32) then (
    some ((σ 1 9), σ)
  ) else
  if x1 = (3 : Int32) then (
    some ((σ 1 8), σ)
  ) else
  if x1 = (4 : Int32) then (
    wt_bnd (f_X0_reckon F 1 σ) fun r2 s3 =>
    wt_bnd (f_X0_held F 1 (0 : Int32) s3) fun r4 s5 =>
    wt_bnd (f_J6_bitCount_0f7a4 F r4 s5) fun r6 s7 =>
    some (r6, s7)
  ) else
  if x1 = (5 : Int32) then (
    wt_bnd (f_X0_allShown F 1 σ) fun r8 s9 =>
    wt_bnd (f_J6_bitCount_0f7a4 F r8 s9) fun r10 s11 =>
    some (r10, s11)
  ) else
  if x1 = (6 : Int32) then (
    wt_bnd (f_X0_hoursOfAll F 1 σ) fun r12 s13 =>
    some (r12, s13)
  ) else
  if x1 = (7 : Int32) then (
    some ((σ 83 1), σ)
  ) else
  if x1 = (8 : Int32) then (
    some ((σ 0 7), σ)
  ) else
  if x1 = (9 : Int32) then (
    some ((σ 70 5), σ)
  ) else
  (
    some ((-9 : Int32), σ)
  )
theorem j_X3_count_22_e {F : Nat} {x1 : Int32} {σ : Mem} : j_X3_count_22 F x1 σ = (
  if x1 = (0 : Int32) then (
    some ((σ 1 0), σ)
  ) else
  if x1 = (1 : Int32) then (
    some ((σ 1 2), σ)
  ) else
  if x1 = (2 : Int32) then (
    some ((σ 1 9), σ)
  ) else
  if x1 = (3 : Int32) then (
    some ((σ 1 8), σ)
  ) else
  if x1 = (4 : Int32) then (
    wt_bnd (f_X0_reckon F 1 σ) fun r2 s3 =>
    wt_bnd (f_X0_held F 1 (0 : Int32) s3) fun r4 s5 =>
    wt_bnd (f_J6_bitCount_0f7a4 F r4 s5) fun r6 s7 =>
    some (r6, s7)
  ) else
  if x1 = (5 : Int32) then (
    wt_bnd (f_X0_allShown F 1 σ) fun r8 s9 =>
    wt_bnd (f_J6_bitCount_0f7a4 F r8 s9) fun r10 s11 =>
    some (r10, s11)
  ) else
  if x1 = (6 : Int32) then (
    wt_bnd (f_X0_hoursOfAll F 1 σ) fun r12 s13 =>
    some (r12, s13)
  ) else
  if x1 = (7 : Int32) then (
    some ((σ 83 1), σ)
  ) else
  if x1 = (8 : Int32) then (
    some ((σ 0 7), σ)
  ) else
  if x1 = (9 : Int32) then (
    some ((σ 70 5), σ)
  ) else
  (
    some ((-9 : Int32), σ)
  )
  ) := rfl
noncomputable def f_X3_count (F : Nat) (x1 : Int32) (σ : Mem) : Option (Int32 × Mem) :=
  if x1 < (11 : Int32) then (
    j_X3_count_22 F x1 σ
  ) else (
    if (16 : Int32) < x1 then (
      j_X3_count_22 F x1 σ
    ) else (
      wt_chk (x1 - (10 : Int32)) 7 <|
      some ((σ 86 (Int32.toNatClampNeg (x1 - (10 : Int32)))), σ)
    )
  )
theorem f_X3_count_e {F : Nat} {x1 : Int32} {σ : Mem} : f_X3_count F x1 σ = (
  if x1 < (11 : Int32) then (
    j_X3_count_22 F x1 σ
  ) else (
    if (16 : Int32) < x1 then (
      j_X3_count_22 F x1 σ
    ) else (
      wt_chk (x1 - (10 : Int32)) 7 <|
      some ((σ 86 (Int32.toNatClampNeg (x1 - (10 : Int32)))), σ)
    )
  )
  ) := rfl
noncomputable def j_X4_in_17 (F : Nat) (σ : Mem) : Option (Int32 × Mem) :=
  some ((0 : Int32), σ)
theorem j_X4_in_17_e {F : Nat} {σ : Mem} : j_X4_in_17 F σ = (
  some ((0 : Int32), σ)
  ) := rfl
noncomputable def f_X4_in (F : Nat) (y0 : Int64) (y2 : Int64) (y4 : Int64) (σ : Mem) : Option (Int32 × Mem) :=
  if (lg_cmp y0 y2) < 0 then (
    j_X4_in_17 F σ
  ) else (
    if 0 < (lg_cmp y0 y4) then (
      j_X4_in_17 F σ
    ) else (
      some ((1 : Int32), σ)
    )
  )
theorem f_X4_in_e {F : Nat} {y0 : Int64} {y2 : Int64} {y4 : Int64} {σ : Mem} : f_X4_in F y0 y2 y4 σ = (
  if (lg_cmp y0 y2) < 0 then (
    j_X4_in_17 F σ
  ) else (
    if 0 < (lg_cmp y0 y4) then (
      j_X4_in_17 F σ
    ) else (
      some ((1 : Int32), σ)
    )
  )
  ) := rfl
noncomputable def f_X4_refuse (F : Nat) (x1 : Int32) (σ : Mem) : Option (Int32 × Mem) :=
  wt_chk (-x1) 7 <|
  wt_lt (up2 σ 108 (Int32.toNatClampNeg (-x1)) ((σ 108 (Int32.toNatClampNeg (-x1))) + (1 : Int32))) fun s2 =>
  some (x1, s2)
theorem f_X4_refuse_e {F : Nat} {x1 : Int32} {σ : Mem} : f_X4_refuse F x1 σ = (
  wt_chk (-x1) 7 <|
  wt_lt (up2 σ 108 (Int32.toNatClampNeg (-x1)) ((σ 108 (Int32.toNatClampNeg (-x1))) + (1 : Int32))) fun s2 =>
  some (x1, s2)
  ) := rfl
noncomputable def f_X4_isLooker (F : Nat) (x1 : Int32) (σ : Mem) : Option (Int32 × Mem) :=
  wt_bnd (f_X4_in F (Int32.toInt64 x1) (0 : Int64) (Int32.toInt64 ((σ 101 3) - (1 : Int32))) σ) fun r1 s2 =>
  wt_bz r1 <|
  some (r1, s2)
theorem f_X4_isLooker_e {F : Nat} {x1 : Int32} {σ : Mem} : f_X4_isLooker F x1 σ = (
  wt_bnd (f_X4_in F (Int32.toInt64 x1) (0 : Int64) (Int32.toInt64 ((σ 101 3) - (1 : Int32))) σ) fun r1 s2 =>
  wt_bz r1 <|
  some (r1, s2)
  ) := rfl
noncomputable def f_X4_isPane (F : Nat) (x1 : Int32) (σ : Mem) : Option (Int32 × Mem) :=
  wt_bnd (f_X4_in F (Int32.toInt64 x1) (0 : Int64) (Int32.toInt64 ((σ 101 1) - (1 : Int32))) σ) fun r1 s2 =>
  wt_bz r1 <|
  some (r1, s2)
theorem f_X4_isPane_e {F : Nat} {x1 : Int32} {σ : Mem} : f_X4_isPane F x1 σ = (
  wt_bnd (f_X4_in F (Int32.toInt64 x1) (0 : Int64) (Int32.toInt64 ((σ 101 1) - (1 : Int32))) σ) fun r1 s2 =>
  wt_bz r1 <|
  some (r1, s2)
  ) := rfl
noncomputable def f_X4_isView (F : Nat) (x0 : Int32) (σ : Mem) : Option (Int32 × Mem) :=
  wt_bnd (f_X4_in F (Int32.toInt64 x0) (0 : Int64) (7 : Int64) σ) fun r1 s2 =>
  wt_bz r1 <|
  some (r1, s2)
theorem f_X4_isView_e {F : Nat} {x0 : Int32} {σ : Mem} : f_X4_isView F x0 σ = (
  wt_bnd (f_X4_in F (Int32.toInt64 x0) (0 : Int64) (7 : Int64) σ) fun r1 s2 =>
  wt_bz r1 <|
  some (r1, s2)
  ) := rfl
noncomputable def f_X4_isHour (F : Nat) (x0 : Int32) (σ : Mem) : Option (Int32 × Mem) :=
  wt_bnd (f_X4_in F (Int32.toInt64 x0) (0 : Int64) (23 : Int64) σ) fun r1 s2 =>
  wt_bz r1 <|
  some (r1, s2)
theorem f_X4_isHour_e {F : Nat} {x0 : Int32} {σ : Mem} : f_X4_isHour F x0 σ = (
  wt_bnd (f_X4_in F (Int32.toInt64 x0) (0 : Int64) (23 : Int64) σ) fun r1 s2 =>
  wt_bz r1 <|
  some (r1, s2)
  ) := rfl
noncomputable def j_X4_areTwo_25 (F : Nat) (σ : Mem) : Option (Int32 × Mem) :=
  some ((0 : Int32), σ)
theorem j_X4_areTwo_25_e {F : Nat} {σ : Mem} : j_X4_areTwo_25 F σ = (
  some ((0 : Int32), σ)
  ) := rfl
noncomputable def f_X4_areTwo (F : Nat) (x1 : Int32) (x2 : Int32) (σ : Mem) : Option (Int32 × Mem) :=
  wt_bnd (f_X4_isLooker F x1 σ) fun r1 s2 =>
  if r1 = 0 then (
    j_X4_areTwo_25 F s2
  ) else (
    wt_bnd (f_X4_isLooker F x2 s2) fun r3 s4 =>
    if r3 = 0 then (
      j_X4_areTwo_25 F s4
    ) else (
      if x1 = x2 then (
        j_X4_areTwo_25 F s4
      ) else (
        some ((1 : Int32), s4)
      )
    )
  )
theorem f_X4_areTwo_e {F : Nat} {x1 : Int32} {x2 : Int32} {σ : Mem} : f_X4_areTwo F x1 x2 σ = (
  wt_bnd (f_X4_isLooker F x1 σ) fun r1 s2 =>
  if r1 = 0 then (
    j_X4_areTwo_25 F s2
  ) else (
    wt_bnd (f_X4_isLooker F x2 s2) fun r3 s4 =>
    if r3 = 0 then (
      j_X4_areTwo_25 F s4
    ) else (
      if x1 = x2 then (
        j_X4_areTwo_25 F s4
      ) else (
        some ((1 : Int32), s4)
      )
    )
  )
  ) := rfl
noncomputable def f_X4_wrongNumber (F : Nat) (x0 : Int32) (x1 : Int32) (x2 : Int32) (σ : Mem) : Option (Int32 × Mem) :=
  if x1 ≤ x0 then (
    if x0 ≤ x2 then (
      some ((0 : Int32), σ)
    ) else (
      some ((-6 : Int32), σ)
    )
  ) else (
    some ((-4 : Int32), σ)
  )
theorem f_X4_wrongNumber_e {F : Nat} {x0 : Int32} {x1 : Int32} {x2 : Int32} {σ : Mem} : f_X4_wrongNumber F x0 x1 x2 σ = (
  if x1 ≤ x0 then (
    if x0 ≤ x2 then (
      some ((0 : Int32), σ)
    ) else (
      some ((-6 : Int32), σ)
    )
  ) else (
    some ((-4 : Int32), σ)
  )
  ) := rfl
noncomputable def j_X4_wrongBit_20 (F : Nat) (x0 : Int32) (σ : Mem) : Option (Int32 × Mem) :=
  some (x0, σ)
theorem j_X4_wrongBit_20_e {F : Nat} {x0 : Int32} {σ : Mem} : j_X4_wrongBit_20 F x0 σ = (
  some (x0, σ)
  ) := rfl
noncomputable def f_X4_wrongBit (F : Nat) (x0 : Int32) (x1 : Int32) (x2 : Int32) (σ : Mem) : Option (Int32 × Mem) :=
  if x0 = 0 then (
    wt_bnd (f_X4_in F (Int32.toInt64 x1) (0 : Int64) (Int32.toInt64 x2) σ) fun r1 s2 =>
    if r1 = 0 then (
      some ((-2 : Int32), s2)
    ) else (
      j_X4_wrongBit_20 F x0 s2
    )
  ) else (
    j_X4_wrongBit_20 F x0 σ
  )
theorem f_X4_wrongBit_e {F : Nat} {x0 : Int32} {x1 : Int32} {x2 : Int32} {σ : Mem} : f_X4_wrongBit F x0 x1 x2 σ = (
  if x0 = 0 then (
    wt_bnd (f_X4_in F (Int32.toInt64 x1) (0 : Int64) (Int32.toInt64 x2) σ) fun r1 s2 =>
    if r1 = 0 then (
      some ((-2 : Int32), s2)
    ) else (
      j_X4_wrongBit_20 F x0 s2
    )
  ) else (
    j_X4_wrongBit_20 F x0 σ
  )
  ) := rfl
noncomputable def f_X4_hasBit (F : Nat) (x0 : Int32) (x1 : Int32) (σ : Mem) : Option (Int32 × Mem) :=
  if ((x0 >>> (x1 &&& 31)) &&& (1 : Int32)) = (1 : Int32) then (
    some ((1 : Int32), σ)
  ) else (
    some ((0 : Int32), σ)
  )
theorem f_X4_hasBit_e {F : Nat} {x0 : Int32} {x1 : Int32} {σ : Mem} : f_X4_hasBit F x0 x1 σ = (
  if ((x0 >>> (x1 &&& 31)) &&& (1 : Int32)) = (1 : Int32) then (
    some ((1 : Int32), σ)
  ) else (
    some ((0 : Int32), σ)
  )
  ) := rfl
noncomputable def lp_X4_onesOf_4 (F : Nat) : Nat → Int32 → Int32 → Mem → Option (Int32 × Mem) := fun N => Nat.rec (motive := fun _ => Int32 → Int32 → Mem → Option (Int32 × Mem)) (fun _ _ _ => none) (fun _ ih x1 x2 σ =>
  if x2 = 0 then (
    some (x1, σ)
  ) else (
    wt_lt (x2 &&& (x2 - (1 : Int32))) fun z1 =>
    ih (x1 + (1 : Int32)) z1 σ
  )
  ) N
theorem lp_X4_onesOf_4_s {F N : Nat} {x1 : Int32} {x2 : Int32} {σ : Mem} : lp_X4_onesOf_4 F (N + 1) x1 x2 σ = (
  if x2 = 0 then (
    some (x1, σ)
  ) else (
    wt_lt (x2 &&& (x2 - (1 : Int32))) fun z1 =>
    (lp_X4_onesOf_4 F N) (x1 + (1 : Int32)) z1 σ
  )
  ) := rfl
noncomputable def f_X4_onesOf (F : Nat) (x0 : Int32) (σ : Mem) : Option (Int32 × Mem) :=
  lp_X4_onesOf_4 F F (0 : Int32) x0 σ
theorem f_X4_onesOf_e {F : Nat} {x0 : Int32} {σ : Mem} : f_X4_onesOf F x0 σ = (
  lp_X4_onesOf_4 F F (0 : Int32) x0 σ
  ) := rfl
noncomputable def j_X4_pullOf_19 (F : Nat) (x1 : Int32) (x2 : Int32) (t0 : Int32) (σ : Mem) : Option (Int32 × Mem) :=
  wt_chk x1 5 <|
  wt_lt (t0 + ((σ 105 (Int32.toNatClampNeg x1)) / (3 : Int32))) fun z2 =>
  if (σ 104 (Int32.toNatClampNeg x1)) = (1 : Int32) then (
    some (t0, σ)
  ) else
  if (σ 104 (Int32.toNatClampNeg x1)) = (2 : Int32) then (
    if x2 = ((σ 105 (Int32.toNatClampNeg x1)) + (8 : Int32)) then (
      some ((5 : Int32), σ)
    ) else (
      some ((0 : Int32), σ)
    )
  ) else
  if (σ 104 (Int32.toNatClampNeg x1)) = (3 : Int32) then (
    if (x2 - x2 / (2 : Int32) * (2 : Int32)) = 0 then (
      some ((1 : Int32), σ)
    ) else (
      some ((0 : Int32), σ)
    )
  ) else
  if (σ 104 (Int32.toNatClampNeg x1)) = (4 : Int32) then (
    some (z2, σ)
  ) else
  if (σ 104 (Int32.toNatClampNeg x1)) = (5 : Int32) then (
    if x2 < (20 : Int32) then (
      some (z2, σ)
    ) else (
      some (((2 : Int32) * z2), σ)
    )
  ) else
  (
    some ((1 : Int32), σ)
  )
theorem j_X4_pullOf_19_e {F : Nat} {x1 : Int32} {x2 : Int32} {t0 : Int32} {σ : Mem} : j_X4_pullOf_19 F x1 x2 t0 σ = (
  wt_chk x1 5 <|
  wt_lt (t0 + ((σ 105 (Int32.toNatClampNeg x1)) / (3 : Int32))) fun z2 =>
  if (σ 104 (Int32.toNatClampNeg x1)) = (1 : Int32) then (
    some (t0, σ)
  ) else
  if (σ 104 (Int32.toNatClampNeg x1)) = (2 : Int32) then (
    if x2 = ((σ 105 (Int32.toNatClampNeg x1)) + (8 : Int32)) then (
      some ((5 : Int32), σ)
    ) else (
      some ((0 : Int32), σ)
    )
  ) else
  if (σ 104 (Int32.toNatClampNeg x1)) = (3 : Int32) then (
    if (x2 - x2 / (2 : Int32) * (2 : Int32)) = 0 then (
      some ((1 : Int32), σ)
    ) else (
      some ((0 : Int32), σ)
    )
  ) else
  if (σ 104 (Int32.toNatClampNeg x1)) = (4 : Int32) then (
    some (z2, σ)
  ) else
  if (σ 104 (Int32.toNatClampNeg x1)) = (5 : Int32) then (
    if x2 < (20 : Int32) then (
      some (z2, σ)
    ) else (
      some (((2 : Int32) * z2), σ)
    )
  ) else
  (
    some ((1 : Int32), σ)
  )
  ) := rfl
noncomputable def f_X4_pullOf (F : Nat) (x1 : Int32) (x2 : Int32) (σ : Mem) : Option (Int32 × Mem) :=
  wt_bnd (f_X4_in F (Int32.toInt64 x2) (6 : Int64) (17 : Int64) σ) fun r4 s5 =>
  if r4 = 0 then (
    j_X4_pullOf_19 F x1 x2 (1 : Int32) s5
  ) else (
    j_X4_pullOf_19 F x1 x2 (2 : Int32) s5
  )
theorem f_X4_pullOf_e {F : Nat} {x1 : Int32} {x2 : Int32} {σ : Mem} : f_X4_pullOf F x1 x2 σ = (
  wt_bnd (f_X4_in F (Int32.toInt64 x2) (6 : Int64) (17 : Int64) σ) fun r4 s5 =>
  if r4 = 0 then (
    j_X4_pullOf_19 F x1 x2 (1 : Int32) s5
  ) else (
    j_X4_pullOf_19 F x1 x2 (2 : Int32) s5
  )
  ) := rfl
noncomputable def lp_X4_allShown_4 (F : Nat) : Nat → Int32 → Int32 → Mem → Option (Int32 × Mem) := fun N => Nat.rec (motive := fun _ => Int32 → Int32 → Mem → Option (Int32 × Mem)) (fun _ _ _ => none) (fun _ ih x1 x2 σ =>
  if (σ 101 1) ≤ x2 then (
    some (x1, σ)
  ) else (
    wt_chk x2 6 <|
    wt_lt (x1 ||| (σ 103 (Int32.toNatClampNeg x2))) fun z2 =>
    ih z2 (x2 + (1 : Int32)) σ
  )
  ) N
theorem lp_X4_allShown_4_s {F N : Nat} {x1 : Int32} {x2 : Int32} {σ : Mem} : lp_X4_allShown_4 F (N + 1) x1 x2 σ = (
  if (σ 101 1) ≤ x2 then (
    some (x1, σ)
  ) else (
    wt_chk x2 6 <|
    wt_lt (x1 ||| (σ 103 (Int32.toNatClampNeg x2))) fun z2 =>
    (lp_X4_allShown_4 F N) z2 (x2 + (1 : Int32)) σ
  )
  ) := rfl
noncomputable def f_X4_allShown (F : Nat) (σ : Mem) : Option (Int32 × Mem) :=
  lp_X4_allShown_4 F F (0 : Int32) (0 : Int32) σ
theorem f_X4_allShown_e {F : Nat} {σ : Mem} : f_X4_allShown F σ = (
  lp_X4_allShown_4 F F (0 : Int32) (0 : Int32) σ
  ) := rfl
noncomputable def f_X4_seesIn (F : Nat) (x1 : Int32) (x2 : Int32) (σ : Mem) : Option (Int32 × Mem) :=
  wt_chk (((24 : Int32) * x1) + x2) 120 <|
  wt_lt (σ 106 (Int32.toNatClampNeg (((24 : Int32) * x1) + x2))) fun z2 =>
  wt_chk x1 5 <|
  if (σ 104 (Int32.toNatClampNeg x1)) = (2 : Int32) then (
    wt_bnd (f_X4_allShown F σ) fun r5 s6 =>
    some (r5, s6)
  ) else (
    if 0 ≤ z2 then (
      wt_chk z2 6 <|
      some ((σ 103 (Int32.toNatClampNeg z2)), σ)
    ) else (
      some ((0 : Int32), σ)
    )
  )
theorem f_X4_seesIn_e {F : Nat} {x1 : Int32} {x2 : Int32} {σ : Mem} : f_X4_seesIn F x1 x2 σ = (
  wt_chk (((24 : Int32) * x1) + x2) 120 <|
  wt_lt (σ 106 (Int32.toNatClampNeg (((24 : Int32) * x1) + x2))) fun z2 =>
  wt_chk x1 5 <|
  if (σ 104 (Int32.toNatClampNeg x1)) = (2 : Int32) then (
    wt_bnd (f_X4_allShown F σ) fun r5 s6 =>
    some (r5, s6)
  ) else (
    if 0 ≤ z2 then (
      wt_chk z2 6 <|
      some ((σ 103 (Int32.toNatClampNeg z2)), σ)
    ) else (
      some ((0 : Int32), σ)
    )
  )
  ) := rfl
noncomputable def j_X4_bringsOf_38 (F : Nat) (k5 : Int32 → Int32 → Mem → Option (Int32 × Mem)) (x1 : Int32) (x2 : Int32) (x4 : Int32) (t0 : Int32) (t1 : Int32) (σ : Mem) : Option (Int32 × Mem) :=
  k5 (t0 + t1) (x4 + (1 : Int32)) σ
theorem j_X4_bringsOf_38_e {F : Nat} {k5 : Int32 → Int32 → Mem → Option (Int32 × Mem)} {x1 : Int32} {x2 : Int32} {x4 : Int32} {t0 : Int32} {t1 : Int32} {σ : Mem} : j_X4_bringsOf_38 F k5 x1 x2 x4 t0 t1 σ = (
  k5 (t0 + t1) (x4 + (1 : Int32)) σ
  ) := rfl
noncomputable def lp_X4_bringsOf_5 (F : Nat) (x1 : Int32) (x2 : Int32) : Nat → Int32 → Int32 → Mem → Option (Int32 × Mem) := fun N => Nat.rec (motive := fun _ => Int32 → Int32 → Mem → Option (Int32 × Mem)) (fun _ _ _ => none) (fun _ ih x3 x4 σ =>
  if (24 : Int32) ≤ x4 then (
    some (x3, σ)
  ) else (
    wt_bnd (f_X4_seesIn F x1 x4 σ) fun r1 s2 =>
    wt_bnd (f_X4_hasBit F r1 x2 s2) fun r3 s4 =>
    if r3 = 0 then (
      j_X4_bringsOf_38 F ih x1 x2 x4 x3 (0 : Int32) s4
    ) else (
      wt_bnd (f_X4_pullOf F x1 x4 s4) fun r5 s6 =>
      j_X4_bringsOf_38 F ih x1 x2 x4 x3 r5 s6
    )
  )
  ) N
theorem lp_X4_bringsOf_5_s {F N : Nat} {x1 : Int32} {x2 : Int32} {x3 : Int32} {x4 : Int32} {σ : Mem} : lp_X4_bringsOf_5 F x1 x2 (N + 1) x3 x4 σ = (
  if (24 : Int32) ≤ x4 then (
    some (x3, σ)
  ) else (
    wt_bnd (f_X4_seesIn F x1 x4 σ) fun r1 s2 =>
    wt_bnd (f_X4_hasBit F r1 x2 s2) fun r3 s4 =>
    if r3 = 0 then (
      j_X4_bringsOf_38 F (lp_X4_bringsOf_5 F x1 x2 N) x1 x2 x4 x3 (0 : Int32) s4
    ) else (
      wt_bnd (f_X4_pullOf F x1 x4 s4) fun r5 s6 =>
      j_X4_bringsOf_38 F (lp_X4_bringsOf_5 F x1 x2 N) x1 x2 x4 x3 r5 s6
    )
  )
  ) := rfl
noncomputable def f_X4_bringsOf (F : Nat) (x1 : Int32) (x2 : Int32) (σ : Mem) : Option (Int32 × Mem) :=
  lp_X4_bringsOf_5 F x1 x2 F (0 : Int32) (0 : Int32) σ
theorem f_X4_bringsOf_e {F : Nat} {x1 : Int32} {x2 : Int32} {σ : Mem} : f_X4_bringsOf F x1 x2 σ = (
  lp_X4_bringsOf_5 F x1 x2 F (0 : Int32) (0 : Int32) σ
  ) := rfl
noncomputable def lp_X4_layBrings_12 (F : Nat) (k2 : Int32 → Mem → Option (Unit × Mem)) (x1 : Int32) : Nat → Int32 → Mem → Option (Unit × Mem) := fun N => Nat.rec (motive := fun _ => Int32 → Mem → Option (Unit × Mem)) (fun _ _ => none) (fun _ ih x2 σ =>
  if (8 : Int32) ≤ x2 then (
    k2 (x1 + (1 : Int32)) σ
  ) else (
    wt_bnd (f_X4_bringsOf F x1 x2 σ) fun r1 s2 =>
    wt_chk (((8 : Int32) * x1) + x2) 40 <|
    wt_lt (up2 s2 109 (Int32.toNatClampNeg (((8 : Int32) * x1) + x2)) r1) fun s4 =>
    ih (x2 + (1 : Int32)) s4
  )
  ) N
theorem lp_X4_layBrings_12_s {F N : Nat} {k2 : Int32 → Mem → Option (Unit × Mem)} {x1 : Int32} {x2 : Int32} {σ : Mem} : lp_X4_layBrings_12 F k2 x1 (N + 1) x2 σ = (
  if (8 : Int32) ≤ x2 then (
    k2 (x1 + (1 : Int32)) σ
  ) else (
    wt_bnd (f_X4_bringsOf F x1 x2 σ) fun r1 s2 =>
    wt_chk (((8 : Int32) * x1) + x2) 40 <|
    wt_lt (up2 s2 109 (Int32.toNatClampNeg (((8 : Int32) * x1) + x2)) r1) fun s4 =>
    (lp_X4_layBrings_12 F k2 x1 N) (x2 + (1 : Int32)) s4
  )
  ) := rfl
noncomputable def lp_X4_layBrings_2 (F : Nat) : Nat → Int32 → Mem → Option (Unit × Mem) := fun N => Nat.rec (motive := fun _ => Int32 → Mem → Option (Unit × Mem)) (fun _ _ => none) (fun _ ih x1 σ =>
  if (σ 101 3) ≤ x1 then (
    some ((), σ)
  ) else (
    lp_X4_layBrings_12 F ih x1 F (0 : Int32) σ
  )
  ) N
theorem lp_X4_layBrings_2_s {F N : Nat} {x1 : Int32} {σ : Mem} : lp_X4_layBrings_2 F (N + 1) x1 σ = (
  if (σ 101 3) ≤ x1 then (
    some ((), σ)
  ) else (
    lp_X4_layBrings_12 F (lp_X4_layBrings_2 F N) x1 F (0 : Int32) σ
  )
  ) := rfl
noncomputable def f_X4_layBrings (F : Nat) (σ : Mem) : Option (Unit × Mem) :=
  lp_X4_layBrings_2 F F (0 : Int32) σ
theorem f_X4_layBrings_e {F : Nat} {σ : Mem} : f_X4_layBrings F σ = (
  lp_X4_layBrings_2 F F (0 : Int32) σ
  ) := rfl
noncomputable def f_X4_held (F : Nat) (x0 : Int32) (σ : Mem) : Option (Int32 × Mem) :=
  if x0 ≤ (99999 : Int32) then (
    some (x0, σ)
  ) else (
    some ((99999 : Int32), σ)
  )
theorem f_X4_held_e {F : Nat} {x0 : Int32} {σ : Mem} : f_X4_held F x0 σ = (
  if x0 ≤ (99999 : Int32) then (
    some (x0, σ)
  ) else (
    some ((99999 : Int32), σ)
  )
  ) := rfl
noncomputable def j_X4_ownerLooked_96 (F : Nat) (k13 : Int32 → Int32 → Int32 → Int32 → Int32 → Mem → Option (Int32 × Mem)) (x1 : Int32) (x3 : Int32) (x4 : Int32) (x5 : Int32) (t0 : Int32) (σ : Mem) : Option (Int32 × Mem) :=
  wt_chk x5 5 <|
  wt_lt (x3 + (σ 110 (Int32.toNatClampNeg x5))) fun z2 =>
  k13 x1 t0 z2 x4 (x5 + (1 : Int32)) σ
theorem j_X4_ownerLooked_96_e {F : Nat} {k13 : Int32 → Int32 → Int32 → Int32 → Int32 → Mem → Option (Int32 × Mem)} {x1 : Int32} {x3 : Int32} {x4 : Int32} {x5 : Int32} {t0 : Int32} {σ : Mem} : j_X4_ownerLooked_96 F k13 x1 x3 x4 x5 t0 σ = (
  wt_chk x5 5 <|
  wt_lt (x3 + (σ 110 (Int32.toNatClampNeg x5))) fun z2 =>
  k13 x1 t0 z2 x4 (x5 + (1 : Int32)) σ
  ) := rfl
noncomputable def j_X4_ownerLooked_73 (F : Nat) (k13 : Int32 → Int32 → Int32 → Int32 → Int32 → Mem → Option (Int32 × Mem)) (x2 : Int32) (x3 : Int32) (x4 : Int32) (x5 : Int32) (t0 : Int32) (σ : Mem) : Option (Int32 × Mem) :=
  wt_chk x5 5 <|
  if (σ 110 (Int32.toNatClampNeg x5)) ≤ x2 then (
    j_X4_ownerLooked_96 F k13 t0 x3 x4 x5 x2 σ
  ) else (
    j_X4_ownerLooked_96 F k13 t0 x3 x4 x5 (σ 110 (Int32.toNatClampNeg x5)) σ
  )
theorem j_X4_ownerLooked_73_e {F : Nat} {k13 : Int32 → Int32 → Int32 → Int32 → Int32 → Mem → Option (Int32 × Mem)} {x2 : Int32} {x3 : Int32} {x4 : Int32} {x5 : Int32} {t0 : Int32} {σ : Mem} : j_X4_ownerLooked_73 F k13 x2 x3 x4 x5 t0 σ = (
  wt_chk x5 5 <|
  if (σ 110 (Int32.toNatClampNeg x5)) ≤ x2 then (
    j_X4_ownerLooked_96 F k13 t0 x3 x4 x5 x2 σ
  ) else (
    j_X4_ownerLooked_96 F k13 t0 x3 x4 x5 (σ 110 (Int32.toNatClampNeg x5)) σ
  )
  ) := rfl
noncomputable def j_X4_ownerLooked_54 (F : Nat) (k13 : Int32 → Int32 → Int32 → Int32 → Int32 → Mem → Option (Int32 × Mem)) (x1 : Int32) (x2 : Int32) (x3 : Int32) (x5 : Int32) (t0 : Int32) (σ : Mem) : Option (Int32 × Mem) :=
  wt_chk x5 5 <|
  if (σ 110 (Int32.toNatClampNeg x5)) ≤ x2 then (
    j_X4_ownerLooked_73 F k13 x2 x3 t0 x5 x1 σ
  ) else (
    j_X4_ownerLooked_73 F k13 x2 x3 t0 x5 x5 σ
  )
theorem j_X4_ownerLooked_54_e {F : Nat} {k13 : Int32 → Int32 → Int32 → Int32 → Int32 → Mem → Option (Int32 × Mem)} {x1 : Int32} {x2 : Int32} {x3 : Int32} {x5 : Int32} {t0 : Int32} {σ : Mem} : j_X4_ownerLooked_54 F k13 x1 x2 x3 x5 t0 σ = (
  wt_chk x5 5 <|
  if (σ 110 (Int32.toNatClampNeg x5)) ≤ x2 then (
    j_X4_ownerLooked_73 F k13 x2 x3 t0 x5 x1 σ
  ) else (
    j_X4_ownerLooked_73 F k13 x2 x3 t0 x5 x5 σ
  )
  ) := rfl
noncomputable def j_X4_ownerLooked_49 (F : Nat) (k13 : Int32 → Int32 → Int32 → Int32 → Int32 → Mem → Option (Int32 × Mem)) (x1 : Int32) (x2 : Int32) (x3 : Int32) (x5 : Int32) (σ : Mem) : Option (Int32 × Mem) :=
  j_X4_ownerLooked_54 F k13 x1 x2 x3 x5 (1 : Int32) σ
theorem j_X4_ownerLooked_49_e {F : Nat} {k13 : Int32 → Int32 → Int32 → Int32 → Int32 → Mem → Option (Int32 × Mem)} {x1 : Int32} {x2 : Int32} {x3 : Int32} {x5 : Int32} {σ : Mem} : j_X4_ownerLooked_49 F k13 x1 x2 x3 x5 σ = (
  j_X4_ownerLooked_54 F k13 x1 x2 x3 x5 (1 : Int32) σ
  ) := rfl
noncomputable def j_X4_ownerLooked_53 (F : Nat) (k13 : Int32 → Int32 → Int32 → Int32 → Int32 → Mem → Option (Int32 × Mem)) (x1 : Int32) (x2 : Int32) (x3 : Int32) (x5 : Int32) (σ : Mem) : Option (Int32 × Mem) :=
  j_X4_ownerLooked_54 F k13 x1 x2 x3 x5 (0 : Int32) σ
theorem j_X4_ownerLooked_53_e {F : Nat} {k13 : Int32 → Int32 → Int32 → Int32 → Int32 → Mem → Option (Int32 × Mem)} {x1 : Int32} {x2 : Int32} {x3 : Int32} {x5 : Int32} {σ : Mem} : j_X4_ownerLooked_53 F k13 x1 x2 x3 x5 σ = (
  j_X4_ownerLooked_54 F k13 x1 x2 x3 x5 (0 : Int32) σ
  ) := rfl
noncomputable def j_X4_ownerLooked_157 (F : Nat) (x1 : Int32) (t0 : Int32) (σ : Mem) : Option (Int32 × Mem) :=
  if t0 = 0 then (
    some ((-9 : Int32), σ)
  ) else (
    some (x1, σ)
  )
theorem j_X4_ownerLooked_157_e {F : Nat} {x1 : Int32} {t0 : Int32} {σ : Mem} : j_X4_ownerLooked_157 F x1 t0 σ = (
  if t0 = 0 then (
    some ((-9 : Int32), σ)
  ) else (
    some (x1, σ)
  )
  ) := rfl
noncomputable def j_X4_ownerLooked_152 (F : Nat) (x1 : Int32) (σ : Mem) : Option (Int32 × Mem) :=
  j_X4_ownerLooked_157 F x1 (1 : Int32) σ
theorem j_X4_ownerLooked_152_e {F : Nat} {x1 : Int32} {σ : Mem} : j_X4_ownerLooked_152 F x1 σ = (
  j_X4_ownerLooked_157 F x1 (1 : Int32) σ
  ) := rfl
noncomputable def j_X4_ownerLooked_156 (F : Nat) (x1 : Int32) (σ : Mem) : Option (Int32 × Mem) :=
  j_X4_ownerLooked_157 F x1 (0 : Int32) σ
theorem j_X4_ownerLooked_156_e {F : Nat} {x1 : Int32} {σ : Mem} : j_X4_ownerLooked_156 F x1 σ = (
  j_X4_ownerLooked_157 F x1 (0 : Int32) σ
  ) := rfl
noncomputable def j_X4_ownerLooked_137 (F : Nat) (x1 : Int32) (x2 : Int32) (x3 : Int32) (σ : Mem) : Option (Int32 × Mem) :=
  if (σ 101 8) = (2 : Int32) then (
    if ((2 : Int32) * x2) ≤ x3 then (
      j_X4_ownerLooked_156 F x1 σ
    ) else (
      j_X4_ownerLooked_152 F x1 σ
    )
  ) else (
    j_X4_ownerLooked_156 F x1 σ
  )
theorem j_X4_ownerLooked_137_e {F : Nat} {x1 : Int32} {x2 : Int32} {x3 : Int32} {σ : Mem} : j_X4_ownerLooked_137 F x1 x2 x3 σ = (
  if (σ 101 8) = (2 : Int32) then (
    if ((2 : Int32) * x2) ≤ x3 then (
      j_X4_ownerLooked_156 F x1 σ
    ) else (
      j_X4_ownerLooked_152 F x1 σ
    )
  ) else (
    j_X4_ownerLooked_156 F x1 σ
  )
  ) := rfl
noncomputable def lp_X4_ownerLooked_13 (F : Nat) : Nat → Int32 → Int32 → Int32 → Int32 → Int32 → Mem → Option (Int32 × Mem) := fun N => Nat.rec (motive := fun _ => Int32 → Int32 → Int32 → Int32 → Int32 → Mem → Option (Int32 × Mem)) (fun _ _ _ _ _ _ => none) (fun _ ih x1 x2 x3 x4 x5 σ =>
  if (σ 101 3) ≤ x5 then (
    if x1 < 0 then (
      j_X4_ownerLooked_156 F x1 σ
    ) else (
      if (σ 101 8) = 0 then (
        j_X4_ownerLooked_152 F x1 σ
      ) else (
        if (σ 101 8) = (1 : Int32) then (
          if x4 = 0 then (
            j_X4_ownerLooked_137 F x1 x2 x3 σ
          ) else (
            j_X4_ownerLooked_152 F x1 σ
          )
        ) else (
          j_X4_ownerLooked_137 F x1 x2 x3 σ
        )
      )
    )
  ) else (
    wt_chk x5 5 <|
    if x2 < (σ 110 (Int32.toNatClampNeg x5)) then (
      j_X4_ownerLooked_49 F ih x1 x2 x3 x5 σ
    ) else (
      if x4 = 0 then (
        j_X4_ownerLooked_53 F ih x1 x2 x3 x5 σ
      ) else (
        if x2 ≤ (σ 110 (Int32.toNatClampNeg x5)) then (
          j_X4_ownerLooked_53 F ih x1 x2 x3 x5 σ
        ) else (
          j_X4_ownerLooked_49 F ih x1 x2 x3 x5 σ
        )
      )
    )
  )
  ) N
theorem lp_X4_ownerLooked_13_s {F N : Nat} {x1 : Int32} {x2 : Int32} {x3 : Int32} {x4 : Int32} {x5 : Int32} {σ : Mem} : lp_X4_ownerLooked_13 F (N + 1) x1 x2 x3 x4 x5 σ = (
  if (σ 101 3) ≤ x5 then (
    if x1 < 0 then (
      j_X4_ownerLooked_156 F x1 σ
    ) else (
      if (σ 101 8) = 0 then (
        j_X4_ownerLooked_152 F x1 σ
      ) else (
        if (σ 101 8) = (1 : Int32) then (
          if x4 = 0 then (
            j_X4_ownerLooked_137 F x1 x2 x3 σ
          ) else (
            j_X4_ownerLooked_152 F x1 σ
          )
        ) else (
          j_X4_ownerLooked_137 F x1 x2 x3 σ
        )
      )
    )
  ) else (
    wt_chk x5 5 <|
    if x2 < (σ 110 (Int32.toNatClampNeg x5)) then (
      j_X4_ownerLooked_49 F (lp_X4_ownerLooked_13 F N) x1 x2 x3 x5 σ
    ) else (
      if x4 = 0 then (
        j_X4_ownerLooked_53 F (lp_X4_ownerLooked_13 F N) x1 x2 x3 x5 σ
      ) else (
        if x2 ≤ (σ 110 (Int32.toNatClampNeg x5)) then (
          j_X4_ownerLooked_53 F (lp_X4_ownerLooked_13 F N) x1 x2 x3 x5 σ
        ) else (
          j_X4_ownerLooked_49 F (lp_X4_ownerLooked_13 F N) x1 x2 x3 x5 σ
        )
      )
    )
  )
  ) := rfl
noncomputable def f_X4_ownerLooked (F : Nat) (σ : Mem) : Option (Int32 × Mem) :=
  lp_X4_ownerLooked_13 F F (-9 : Int32) (0 : Int32) (0 : Int32) (1 : Int32) (0 : Int32) σ
theorem f_X4_ownerLooked_e {F : Nat} {σ : Mem} : f_X4_ownerLooked F σ = (
  lp_X4_ownerLooked_13 F F (-9 : Int32) (0 : Int32) (0 : Int32) (1 : Int32) (0 : Int32) σ
  ) := rfl
noncomputable def lp_X4_ownerIn_2 (F : Nat) (x1 : Int32) (x2 : Int32) : Nat → Int32 → Mem → Option (Int32 × Mem) := fun N => Nat.rec (motive := fun _ => Int32 → Mem → Option (Int32 × Mem)) (fun _ _ => none) (fun _ ih x3 σ =>
  if (σ 101 3) ≤ x3 then (
    wt_bnd (f_X4_ownerLooked F σ) fun r1 s2 =>
    some (r1, s2)
  ) else (
    wt_chk (((8 : Int32) * x3) + x1) 40 <|
    wt_bnd (f_X4_held F ((σ 107 (Int32.toNatClampNeg (((8 : Int32) * x3) + x1))) + (x2 * (σ 109 (Int32.toNatClampNeg (((8 : Int32) * x3) + x1))))) σ) fun r4 s5 =>
    wt_chk x3 5 <|
    wt_lt (up2 s5 110 (Int32.toNatClampNeg x3) r4) fun s7 =>
    ih (x3 + (1 : Int32)) s7
  )
  ) N
theorem lp_X4_ownerIn_2_s {F N : Nat} {x1 : Int32} {x2 : Int32} {x3 : Int32} {σ : Mem} : lp_X4_ownerIn_2 F x1 x2 (N + 1) x3 σ = (
  if (σ 101 3) ≤ x3 then (
    wt_bnd (f_X4_ownerLooked F σ) fun r1 s2 =>
    some (r1, s2)
  ) else (
    wt_chk (((8 : Int32) * x3) + x1) 40 <|
    wt_bnd (f_X4_held F ((σ 107 (Int32.toNatClampNeg (((8 : Int32) * x3) + x1))) + (x2 * (σ 109 (Int32.toNatClampNeg (((8 : Int32) * x3) + x1))))) σ) fun r4 s5 =>
    wt_chk x3 5 <|
    wt_lt (up2 s5 110 (Int32.toNatClampNeg x3) r4) fun s7 =>
    (lp_X4_ownerIn_2 F x1 x2 N) (x3 + (1 : Int32)) s7
  )
  ) := rfl
noncomputable def f_X4_ownerIn (F : Nat) (x1 : Int32) (x2 : Int32) (σ : Mem) : Option (Int32 × Mem) :=
  lp_X4_ownerIn_2 F x1 x2 F (0 : Int32) σ
theorem f_X4_ownerIn_e {F : Nat} {x1 : Int32} {x2 : Int32} {σ : Mem} : f_X4_ownerIn F x1 x2 σ = (
  lp_X4_ownerIn_2 F x1 x2 F (0 : Int32) σ
  ) := rfl
noncomputable def j_X4_viewsIn_32 (F : Nat) (k5 : Int32 → Int32 → Mem → Option (Int32 × Mem)) (x1 : Int32) (x2 : Int32) (x4 : Int32) (t0 : Int32) (t1 : Int32) (σ : Mem) : Option (Int32 × Mem) :=
  k5 (t0 ||| t1) (x4 + (1 : Int32)) σ
theorem j_X4_viewsIn_32_e {F : Nat} {k5 : Int32 → Int32 → Mem → Option (Int32 × Mem)} {x1 : Int32} {x2 : Int32} {x4 : Int32} {t0 : Int32} {t1 : Int32} {σ : Mem} : j_X4_viewsIn_32 F k5 x1 x2 x4 t0 t1 σ = (
  k5 (t0 ||| t1) (x4 + (1 : Int32)) σ
  ) := rfl
noncomputable def lp_X4_viewsIn_5 (F : Nat) (x1 : Int32) (x2 : Int32) : Nat → Int32 → Int32 → Mem → Option (Int32 × Mem) := fun N => Nat.rec (motive := fun _ => Int32 → Int32 → Mem → Option (Int32 × Mem)) (fun _ _ _ => none) (fun _ ih x3 x4 σ =>
  if (8 : Int32) ≤ x4 then (
    some (x3, σ)
  ) else (
    wt_bnd (f_X4_ownerIn F x4 x2 σ) fun r1 s2 =>
    if r1 = x1 then (
      j_X4_viewsIn_32 F ih x1 x2 x4 x3 ((1 : Int32) <<< (x4 &&& 31)) s2
    ) else (
      j_X4_viewsIn_32 F ih x1 x2 x4 x3 (0 : Int32) s2
    )
  )
  ) N
theorem lp_X4_viewsIn_5_s {F N : Nat} {x1 : Int32} {x2 : Int32} {x3 : Int32} {x4 : Int32} {σ : Mem} : lp_X4_viewsIn_5 F x1 x2 (N + 1) x3 x4 σ = (
  if (8 : Int32) ≤ x4 then (
    some (x3, σ)
  ) else (
    wt_bnd (f_X4_ownerIn F x4 x2 σ) fun r1 s2 =>
    if r1 = x1 then (
      j_X4_viewsIn_32 F (lp_X4_viewsIn_5 F x1 x2 N) x1 x2 x4 x3 ((1 : Int32) <<< (x4 &&& 31)) s2
    ) else (
      j_X4_viewsIn_32 F (lp_X4_viewsIn_5 F x1 x2 N) x1 x2 x4 x3 (0 : Int32) s2
    )
  )
  ) := rfl
noncomputable def f_X4_viewsIn (F : Nat) (x1 : Int32) (x2 : Int32) (σ : Mem) : Option (Int32 × Mem) :=
  lp_X4_viewsIn_5 F x1 x2 F (0 : Int32) (0 : Int32) σ
theorem f_X4_viewsIn_e {F : Nat} {x1 : Int32} {x2 : Int32} {σ : Mem} : f_X4_viewsIn F x1 x2 σ = (
  lp_X4_viewsIn_5 F x1 x2 F (0 : Int32) (0 : Int32) σ
  ) := rfl
noncomputable def j_X4_worthBy_29 (F : Nat) (k4 : Int32 → Int32 → Mem → Option (Int32 × Mem)) (x1 : Int32) (x3 : Int32) (t0 : Int32) (t1 : Int32) (σ : Mem) : Option (Int32 × Mem) :=
  k4 (t0 + t1) (x3 + (1 : Int32)) σ
theorem j_X4_worthBy_29_e {F : Nat} {k4 : Int32 → Int32 → Mem → Option (Int32 × Mem)} {x1 : Int32} {x3 : Int32} {t0 : Int32} {t1 : Int32} {σ : Mem} : j_X4_worthBy_29 F k4 x1 x3 t0 t1 σ = (
  k4 (t0 + t1) (x3 + (1 : Int32)) σ
  ) := rfl
noncomputable def lp_X4_worthBy_4 (F : Nat) (x1 : Int32) : Nat → Int32 → Int32 → Mem → Option (Int32 × Mem) := fun N => Nat.rec (motive := fun _ => Int32 → Int32 → Mem → Option (Int32 × Mem)) (fun _ _ _ => none) (fun _ ih x2 x3 σ =>
  if (8 : Int32) ≤ x3 then (
    some (x2, σ)
  ) else (
    wt_bnd (f_X4_hasBit F x1 x3 σ) fun r1 s2 =>
    if r1 = 0 then (
      j_X4_worthBy_29 F ih x1 x3 x2 (0 : Int32) s2
    ) else (
      wt_chk x3 8 <|
      j_X4_worthBy_29 F ih x1 x3 x2 (s2 102 (Int32.toNatClampNeg x3)) s2
    )
  )
  ) N
theorem lp_X4_worthBy_4_s {F N : Nat} {x1 : Int32} {x2 : Int32} {x3 : Int32} {σ : Mem} : lp_X4_worthBy_4 F x1 (N + 1) x2 x3 σ = (
  if (8 : Int32) ≤ x3 then (
    some (x2, σ)
  ) else (
    wt_bnd (f_X4_hasBit F x1 x3 σ) fun r1 s2 =>
    if r1 = 0 then (
      j_X4_worthBy_29 F (lp_X4_worthBy_4 F x1 N) x1 x3 x2 (0 : Int32) s2
    ) else (
      wt_chk x3 8 <|
      j_X4_worthBy_29 F (lp_X4_worthBy_4 F x1 N) x1 x3 x2 (s2 102 (Int32.toNatClampNeg x3)) s2
    )
  )
  ) := rfl
noncomputable def f_X4_worthBy (F : Nat) (x1 : Int32) (σ : Mem) : Option (Int32 × Mem) :=
  lp_X4_worthBy_4 F x1 F (0 : Int32) (0 : Int32) σ
theorem f_X4_worthBy_e {F : Nat} {x1 : Int32} {σ : Mem} : f_X4_worthBy F x1 σ = (
  lp_X4_worthBy_4 F x1 F (0 : Int32) (0 : Int32) σ
  ) := rfl
noncomputable def f_X4_worthIn (F : Nat) (x1 : Int32) (x2 : Int32) (σ : Mem) : Option (Int32 × Mem) :=
  wt_bnd (f_X4_viewsIn F x1 x2 σ) fun r1 s2 =>
  wt_bnd (f_X4_worthBy F r1 s2) fun r3 s4 =>
  some (r3, s4)
theorem f_X4_worthIn_e {F : Nat} {x1 : Int32} {x2 : Int32} {σ : Mem} : f_X4_worthIn F x1 x2 σ = (
  wt_bnd (f_X4_viewsIn F x1 x2 σ) fun r1 s2 =>
  wt_bnd (f_X4_worthBy F r1 s2) fun r3 s4 =>
  some (r3, s4)
  ) := rfl
noncomputable def f_X4_worthAnew (F : Nat) (x1 : Int32) (x2 : Int32) (σ : Mem) : Option (Int32 × Mem) :=
  wt_bnd (f_X4_layBrings F σ) fun r1 s2 =>
  wt_bnd (f_X4_worthIn F x1 x2 s2) fun r3 s4 =>
  some (r3, s4)
theorem f_X4_worthAnew_e {F : Nat} {x1 : Int32} {x2 : Int32} {σ : Mem} : f_X4_worthAnew F x1 x2 σ = (
  wt_bnd (f_X4_layBrings F σ) fun r1 s2 =>
  wt_bnd (f_X4_worthIn F x1 x2 s2) fun r3 s4 =>
  some (r3, s4)
  ) := rfl
noncomputable def j_X4_hoursOf_30 (F : Nat) (k4 : Int32 → Int32 → Mem → Option (Int32 × Mem)) (x1 : Int32) (x3 : Int32) (t0 : Int32) (t1 : Int32) (σ : Mem) : Option (Int32 × Mem) :=
  k4 (t0 + t1) (x3 + (1 : Int32)) σ
theorem j_X4_hoursOf_30_e {F : Nat} {k4 : Int32 → Int32 → Mem → Option (Int32 × Mem)} {x1 : Int32} {x3 : Int32} {t0 : Int32} {t1 : Int32} {σ : Mem} : j_X4_hoursOf_30 F k4 x1 x3 t0 t1 σ = (
  k4 (t0 + t1) (x3 + (1 : Int32)) σ
  ) := rfl
noncomputable def lp_X4_hoursOf_4 (F : Nat) (x1 : Int32) : Nat → Int32 → Int32 → Mem → Option (Int32 × Mem) := fun N => Nat.rec (motive := fun _ => Int32 → Int32 → Mem → Option (Int32 × Mem)) (fun _ _ _ => none) (fun _ ih x2 x3 σ =>
  if (24 : Int32) ≤ x3 then (
    some (x2, σ)
  ) else (
    wt_chk (((24 : Int32) * x1) + x3) 120 <|
    if (σ 106 (Int32.toNatClampNeg (((24 : Int32) * x1) + x3))) < 0 then (
      j_X4_hoursOf_30 F ih x1 x3 x2 (0 : Int32) σ
    ) else (
      j_X4_hoursOf_30 F ih x1 x3 x2 (1 : Int32) σ
    )
  )
  ) N
theorem lp_X4_hoursOf_4_s {F N : Nat} {x1 : Int32} {x2 : Int32} {x3 : Int32} {σ : Mem} : lp_X4_hoursOf_4 F x1 (N + 1) x2 x3 σ = (
  if (24 : Int32) ≤ x3 then (
    some (x2, σ)
  ) else (
    wt_chk (((24 : Int32) * x1) + x3) 120 <|
    if (σ 106 (Int32.toNatClampNeg (((24 : Int32) * x1) + x3))) < 0 then (
      j_X4_hoursOf_30 F (lp_X4_hoursOf_4 F x1 N) x1 x3 x2 (0 : Int32) σ
    ) else (
      j_X4_hoursOf_30 F (lp_X4_hoursOf_4 F x1 N) x1 x3 x2 (1 : Int32) σ
    )
  )
  ) := rfl
noncomputable def f_X4_hoursOf (F : Nat) (x1 : Int32) (σ : Mem) : Option (Int32 × Mem) :=
  lp_X4_hoursOf_4 F x1 F (0 : Int32) (0 : Int32) σ
theorem f_X4_hoursOf_e {F : Nat} {x1 : Int32} {σ : Mem} : f_X4_hoursOf F x1 σ = (
  lp_X4_hoursOf_4 F x1 F (0 : Int32) (0 : Int32) σ
  ) := rfl
noncomputable def lp_X4_goDays_6 (F : Nat) (x1 : Int32) : Nat → Int32 → Mem → Option (Unit × Mem) := fun N => Nat.rec (motive := fun _ => Int32 → Mem → Option (Unit × Mem)) (fun _ _ => none) (fun _ ih x2 σ =>
  if ((8 : Int32) * (σ 101 3)) ≤ x2 then (
    wt_lt (up2 σ 101 9 ((σ 101 9) + x1)) fun s1 =>
    some ((), s1)
  ) else (
    wt_chk x2 40 <|
    wt_bnd (f_X4_held F ((σ 107 (Int32.toNatClampNeg x2)) + (x1 * (σ 109 (Int32.toNatClampNeg x2)))) σ) fun r3 s4 =>
    wt_lt (up2 s4 107 (Int32.toNatClampNeg x2) r3) fun s5 =>
    ih (x2 + (1 : Int32)) s5
  )
  ) N
theorem lp_X4_goDays_6_s {F N : Nat} {x1 : Int32} {x2 : Int32} {σ : Mem} : lp_X4_goDays_6 F x1 (N + 1) x2 σ = (
  if ((8 : Int32) * (σ 101 3)) ≤ x2 then (
    wt_lt (up2 σ 101 9 ((σ 101 9) + x1)) fun s1 =>
    some ((), s1)
  ) else (
    wt_chk x2 40 <|
    wt_bnd (f_X4_held F ((σ 107 (Int32.toNatClampNeg x2)) + (x1 * (σ 109 (Int32.toNatClampNeg x2)))) σ) fun r3 s4 =>
    wt_lt (up2 s4 107 (Int32.toNatClampNeg x2) r3) fun s5 =>
    (lp_X4_goDays_6 F x1 N) (x2 + (1 : Int32)) s5
  )
  ) := rfl
noncomputable def f_X4_goDays (F : Nat) (x1 : Int32) (σ : Mem) : Option (Unit × Mem) :=
  wt_bnd (f_X4_layBrings F σ) fun r6 s7 =>
  lp_X4_goDays_6 F x1 F (0 : Int32) s7
theorem f_X4_goDays_e {F : Nat} {x1 : Int32} {σ : Mem} : f_X4_goDays F x1 σ = (
  wt_bnd (f_X4_layBrings F σ) fun r6 s7 =>
  lp_X4_goDays_6 F x1 F (0 : Int32) s7
  ) := rfl
noncomputable def j_X4_owned_29 (F : Nat) (k8 : Int32 → Int32 → Mem → Option (Int32 × Mem)) (x2 : Int32) (t0 : Int32) (t1 : Int32) (σ : Mem) : Option (Int32 × Mem) :=
  k8 (t0 + t1) (x2 + (1 : Int32)) σ
theorem j_X4_owned_29_e {F : Nat} {k8 : Int32 → Int32 → Mem → Option (Int32 × Mem)} {x2 : Int32} {t0 : Int32} {t1 : Int32} {σ : Mem} : j_X4_owned_29 F k8 x2 t0 t1 σ = (
  k8 (t0 + t1) (x2 + (1 : Int32)) σ
  ) := rfl
noncomputable def lp_X4_owned_8 (F : Nat) : Nat → Int32 → Int32 → Mem → Option (Int32 × Mem) := fun N => Nat.rec (motive := fun _ => Int32 → Int32 → Mem → Option (Int32 × Mem)) (fun _ _ _ => none) (fun _ ih x1 x2 σ =>
  if (8 : Int32) ≤ x2 then (
    some (x1, σ)
  ) else (
    wt_bnd (f_X4_ownerIn F x2 (0 : Int32) σ) fun r1 s2 =>
    if 0 ≤ r1 then (
      j_X4_owned_29 F ih x2 x1 (1 : Int32) s2
    ) else (
      j_X4_owned_29 F ih x2 x1 (0 : Int32) s2
    )
  )
  ) N
theorem lp_X4_owned_8_s {F N : Nat} {x1 : Int32} {x2 : Int32} {σ : Mem} : lp_X4_owned_8 F (N + 1) x1 x2 σ = (
  if (8 : Int32) ≤ x2 then (
    some (x1, σ)
  ) else (
    wt_bnd (f_X4_ownerIn F x2 (0 : Int32) σ) fun r1 s2 =>
    if 0 ≤ r1 then (
      j_X4_owned_29 F (lp_X4_owned_8 F N) x2 x1 (1 : Int32) s2
    ) else (
      j_X4_owned_29 F (lp_X4_owned_8 F N) x2 x1 (0 : Int32) s2
    )
  )
  ) := rfl
noncomputable def f_X4_owned (F : Nat) (σ : Mem) : Option (Int32 × Mem) :=
  wt_bnd (f_X4_layBrings F σ) fun r3 s4 =>
  lp_X4_owned_8 F F (0 : Int32) (0 : Int32) s4
theorem f_X4_owned_e {F : Nat} {σ : Mem} : f_X4_owned F σ = (
  wt_bnd (f_X4_layBrings F σ) fun r3 s4 =>
  lp_X4_owned_8 F F (0 : Int32) (0 : Int32) s4
  ) := rfl
noncomputable def j_X4_feed_32 (F : Nat) (σ : Mem) : Option (Int32 × Mem) :=
  wt_bnd (f_X4_refuse F (-6 : Int32) σ) fun r1 s2 =>
  some (r1, s2)
theorem j_X4_feed_32_e {F : Nat} {σ : Mem} : j_X4_feed_32 F σ = (
  wt_bnd (f_X4_refuse F (-6 : Int32) σ) fun r1 s2 =>
  some (r1, s2)
  ) := rfl
noncomputable def f_X4_feed (F : Nat) (x1 : Int32) (σ : Mem) : Option (Int32 × Mem) :=
  wt_lt (up2 σ 101 10 (0 : Int32)) fun s3 =>
  if 0 ≤ x1 then (
    if (255 : Int32) < x1 then (
      j_X4_feed_32 F s3
    ) else (
      if (s3 101 15) = (96 : Int32) then (
        j_X4_feed_32 F s3
      ) else (
        wt_chk (s3 101 15) 96 <|
        wt_lt (up2 s3 111 (Int32.toNatClampNeg (s3 101 15)) x1) fun s5 =>
        wt_lt (up2 s5 101 15 ((s5 101 15) + (1 : Int32))) fun s6 =>
        some ((s6 101 15), s6)
      )
    )
  ) else (
    wt_bnd (f_X4_refuse F (-4 : Int32) s3) fun r7 s8 =>
    some (r7, s8)
  )
theorem f_X4_feed_e {F : Nat} {x1 : Int32} {σ : Mem} : f_X4_feed F x1 σ = (
  wt_lt (up2 σ 101 10 (0 : Int32)) fun s3 =>
  if 0 ≤ x1 then (
    if (255 : Int32) < x1 then (
      j_X4_feed_32 F s3
    ) else (
      if (s3 101 15) = (96 : Int32) then (
        j_X4_feed_32 F s3
      ) else (
        wt_chk (s3 101 15) 96 <|
        wt_lt (up2 s3 111 (Int32.toNatClampNeg (s3 101 15)) x1) fun s5 =>
        wt_lt (up2 s5 101 15 ((s5 101 15) + (1 : Int32))) fun s6 =>
        some ((s6 101 15), s6)
      )
    )
  ) else (
    wt_bnd (f_X4_refuse F (-4 : Int32) s3) fun r7 s8 =>
    some (r7, s8)
  )
  ) := rfl
noncomputable def f_X4_here (F : Nat) (σ : Mem) : Option (Int32 × Mem) :=
  if (σ 101 15) ≤ (σ 101 16) then (
    some ((-1 : Int32), σ)
  ) else (
    wt_chk (σ 101 16) 96 <|
    some ((σ 111 (Int32.toNatClampNeg (σ 101 16))), σ)
  )
theorem f_X4_here_e {F : Nat} {σ : Mem} : f_X4_here F σ = (
  if (σ 101 15) ≤ (σ 101 16) then (
    some ((-1 : Int32), σ)
  ) else (
    wt_chk (σ 101 16) 96 <|
    some ((σ 111 (Int32.toNatClampNeg (σ 101 16))), σ)
  )
  ) := rfl
noncomputable def j_X4_readDigits_88 (F : Nat) (k4 : Int32 → Int32 → Mem → Option (Int32 × Mem)) (x1 : Int32) (x2 : Int32) (x3 : Int32) (t1 : Int32) (t2 : Int32) (σ : Mem) : Option (Int32 × Mem) :=
  wt_lt (up2 σ 101 16 (t1 + t2)) fun s1 =>
  k4 x2 (x3 + (1 : Int32)) s1
theorem j_X4_readDigits_88_e {F : Nat} {k4 : Int32 → Int32 → Mem → Option (Int32 × Mem)} {x1 : Int32} {x2 : Int32} {x3 : Int32} {t1 : Int32} {t2 : Int32} {σ : Mem} : j_X4_readDigits_88 F k4 x1 x2 x3 t1 t2 σ = (
  wt_lt (up2 σ 101 16 (t1 + t2)) fun s1 =>
  k4 x2 (x3 + (1 : Int32)) s1
  ) := rfl
noncomputable def j_X4_readDigits_70 (F : Nat) (k4 : Int32 → Int32 → Mem → Option (Int32 × Mem)) (x1 : Int32) (x3 : Int32) (t0 : Int32) (σ : Mem) : Option (Int32 × Mem) :=
  if (σ 101 17) = 0 then (
    j_X4_readDigits_88 F k4 x1 t0 x3 (σ 101 16) (1 : Int32) σ
  ) else (
    j_X4_readDigits_88 F k4 x1 t0 x3 (σ 101 16) (0 : Int32) σ
  )
theorem j_X4_readDigits_70_e {F : Nat} {k4 : Int32 → Int32 → Mem → Option (Int32 × Mem)} {x1 : Int32} {x3 : Int32} {t0 : Int32} {σ : Mem} : j_X4_readDigits_70 F k4 x1 x3 t0 σ = (
  if (σ 101 17) = 0 then (
    j_X4_readDigits_88 F k4 x1 t0 x3 (σ 101 16) (1 : Int32) σ
  ) else (
    j_X4_readDigits_88 F k4 x1 t0 x3 (σ 101 16) (0 : Int32) σ
  )
  ) := rfl
noncomputable def j_X4_readDigits_39 (F : Nat) (k4 : Int32 → Int32 → Mem → Option (Int32 × Mem)) (x1 : Int32) (x2 : Int32) (x3 : Int32) (t1 : Int32) (σ : Mem) : Option (Int32 × Mem) :=
  wt_bz t1 <|
  wt_lt (up2 σ 101 17 t1) fun s2 =>
  if (s2 101 17) = 0 then (
    wt_chk (s2 101 16) 96 <|
    j_X4_readDigits_70 F k4 x1 x3 ((((10 : Int32) * x2) + (s2 111 (Int32.toNatClampNeg (s2 101 16)))) - (48 : Int32)) s2
  ) else (
    j_X4_readDigits_70 F k4 x1 x3 (0 : Int32) s2
  )
theorem j_X4_readDigits_39_e {F : Nat} {k4 : Int32 → Int32 → Mem → Option (Int32 × Mem)} {x1 : Int32} {x2 : Int32} {x3 : Int32} {t1 : Int32} {σ : Mem} : j_X4_readDigits_39 F k4 x1 x2 x3 t1 σ = (
  wt_bz t1 <|
  wt_lt (up2 σ 101 17 t1) fun s2 =>
  if (s2 101 17) = 0 then (
    wt_chk (s2 101 16) 96 <|
    j_X4_readDigits_70 F k4 x1 x3 ((((10 : Int32) * x2) + (s2 111 (Int32.toNatClampNeg (s2 101 16)))) - (48 : Int32)) s2
  ) else (
    j_X4_readDigits_70 F k4 x1 x3 (0 : Int32) s2
  )
  ) := rfl
noncomputable def j_X4_readDigits_34 (F : Nat) (k4 : Int32 → Int32 → Mem → Option (Int32 × Mem)) (x1 : Int32) (x2 : Int32) (x3 : Int32) (σ : Mem) : Option (Int32 × Mem) :=
  j_X4_readDigits_39 F k4 x1 x2 x3 (1 : Int32) σ
theorem j_X4_readDigits_34_e {F : Nat} {k4 : Int32 → Int32 → Mem → Option (Int32 × Mem)} {x1 : Int32} {x2 : Int32} {x3 : Int32} {σ : Mem} : j_X4_readDigits_34 F k4 x1 x2 x3 σ = (
  j_X4_readDigits_39 F k4 x1 x2 x3 (1 : Int32) σ
  ) := rfl
noncomputable def lp_X4_readDigits_4 (F : Nat) (x1 : Int32) : Nat → Int32 → Int32 → Mem → Option (Int32 × Mem) := fun N => Nat.rec (motive := fun _ => Int32 → Int32 → Mem → Option (Int32 × Mem)) (fun _ _ _ => none) (fun _ ih x2 x3 σ =>
  if x1 ≤ x3 then (
    some (x2, σ)
  ) else (
    if (σ 101 17) = 0 then (
      wt_bnd (f_X4_here F σ) fun r5 s6 =>
      wt_bnd (f_X4_in F (Int32.toInt64 r5) (48 : Int64) (57 : Int64) s6) fun r7 s8 =>
      if r7 = 0 then (
        j_X4_readDigits_34 F ih x1 x2 x3 s8
      ) else (
        j_X4_readDigits_39 F ih x1 x2 x3 (0 : Int32) s8
      )
    ) else (
      j_X4_readDigits_34 F ih x1 x2 x3 σ
    )
  )
  ) N
theorem lp_X4_readDigits_4_s {F N : Nat} {x1 : Int32} {x2 : Int32} {x3 : Int32} {σ : Mem} : lp_X4_readDigits_4 F x1 (N + 1) x2 x3 σ = (
  if x1 ≤ x3 then (
    some (x2, σ)
  ) else (
    if (σ 101 17) = 0 then (
      wt_bnd (f_X4_here F σ) fun r5 s6 =>
      wt_bnd (f_X4_in F (Int32.toInt64 r5) (48 : Int64) (57 : Int64) s6) fun r7 s8 =>
      if r7 = 0 then (
        j_X4_readDigits_34 F (lp_X4_readDigits_4 F x1 N) x1 x2 x3 s8
      ) else (
        j_X4_readDigits_39 F (lp_X4_readDigits_4 F x1 N) x1 x2 x3 (0 : Int32) s8
      )
    ) else (
      j_X4_readDigits_34 F (lp_X4_readDigits_4 F x1 N) x1 x2 x3 σ
    )
  )
  ) := rfl
noncomputable def f_X4_readDigits (F : Nat) (x1 : Int32) (σ : Mem) : Option (Int32 × Mem) :=
  lp_X4_readDigits_4 F x1 F (0 : Int32) (0 : Int32) σ
theorem f_X4_readDigits_e {F : Nat} {x1 : Int32} {σ : Mem} : f_X4_readDigits F x1 σ = (
  lp_X4_readDigits_4 F x1 F (0 : Int32) (0 : Int32) σ
  ) := rfl
noncomputable def j_X4_isLetter_42 (F : Nat) (σ : Mem) : Option (Int32 × Mem) :=
  some ((1 : Int32), σ)
theorem j_X4_isLetter_42_e {F : Nat} {σ : Mem} : j_X4_isLetter_42 F σ = (
  some ((1 : Int32), σ)
  ) := rfl
noncomputable def f_X4_isLetter (F : Nat) (x0 : Int32) (σ : Mem) : Option (Int32 × Mem) :=
  if x0 = (112 : Int32) then (
    j_X4_isLetter_42 F σ
  ) else (
    if x0 = (108 : Int32) then (
      j_X4_isLetter_42 F σ
    ) else (
      if x0 = (115 : Int32) then (
        j_X4_isLetter_42 F σ
      ) else (
        if x0 = (118 : Int32) then (
          j_X4_isLetter_42 F σ
        ) else (
          if x0 = (119 : Int32) then (
            j_X4_isLetter_42 F σ
          ) else (
            if x0 = (117 : Int32) then (
              j_X4_isLetter_42 F σ
            ) else (
              if x0 = (100 : Int32) then (
                j_X4_isLetter_42 F σ
              ) else (
                some ((0 : Int32), σ)
              )
            )
          )
        )
      )
    )
  )
theorem f_X4_isLetter_e {F : Nat} {x0 : Int32} {σ : Mem} : f_X4_isLetter F x0 σ = (
  if x0 = (112 : Int32) then (
    j_X4_isLetter_42 F σ
  ) else (
    if x0 = (108 : Int32) then (
      j_X4_isLetter_42 F σ
    ) else (
      if x0 = (115 : Int32) then (
        j_X4_isLetter_42 F σ
      ) else (
        if x0 = (118 : Int32) then (
          j_X4_isLetter_42 F σ
        ) else (
          if x0 = (119 : Int32) then (
            j_X4_isLetter_42 F σ
          ) else (
            if x0 = (117 : Int32) then (
              j_X4_isLetter_42 F σ
            ) else (
              if x0 = (100 : Int32) then (
                j_X4_isLetter_42 F σ
              ) else (
                some ((0 : Int32), σ)
              )
            )
          )
        )
      )
    )
  )
  ) := rfl
noncomputable def f_X4_readNumbers (F : Nat) (x1 : Int32) (x2 : Int32) (σ : Mem) : Option (Unit × Mem) :=
  if x1 = (100 : Int32) then (
    wt_bnd (f_X4_readDigits F (2 : Int32) σ) fun r2 s3 =>
    wt_chk x2 196 <|
    wt_lt (up2 s3 114 (Int32.toNatClampNeg x2) r2) fun s5 =>
    some ((), s5)
  ) else
  if x1 = (112 : Int32) then (
    wt_bnd (f_X4_readDigits F (3 : Int32) σ) fun r6 s7 =>
    wt_chk x2 196 <|
    wt_lt (up2 s7 114 (Int32.toNatClampNeg x2) r6) fun s9 =>
    some ((), s9)
  ) else
  if x1 = (115 : Int32) then (
    wt_bnd (f_X4_readDigits F (1 : Int32) σ) fun r10 s11 =>
    wt_chk x2 196 <|
    wt_lt (up2 s11 114 (Int32.toNatClampNeg x2) r10) fun s13 =>
    wt_bnd (f_X4_readDigits F (2 : Int32) s13) fun r14 s15 =>
    wt_chk (x2 + (1 : Int32)) 196 <|
    wt_lt (up2 s15 114 (Int32.toNatClampNeg (x2 + (1 : Int32))) r14) fun s17 =>
    wt_bnd (f_X4_readDigits F (2 : Int32) s17) fun r18 s19 =>
    wt_chk (x2 + (2 : Int32)) 196 <|
    wt_lt (up2 s19 114 (Int32.toNatClampNeg (x2 + (2 : Int32))) r18) fun s21 =>
    wt_bnd (f_X4_readDigits F (1 : Int32) s21) fun r22 s23 =>
    wt_chk (x2 + (3 : Int32)) 196 <|
    wt_lt (up2 s23 114 (Int32.toNatClampNeg (x2 + (3 : Int32))) r22) fun s25 =>
    some ((), s25)
  ) else
  if x1 = (117 : Int32) then (
    wt_bnd (f_X4_readDigits F (1 : Int32) σ) fun r26 s27 =>
    wt_chk x2 196 <|
    wt_lt (up2 s27 114 (Int32.toNatClampNeg x2) r26) fun s29 =>
    some ((), s29)
  ) else
  (
    wt_bnd (f_X4_readDigits F (1 : Int32) σ) fun r30 s31 =>
    wt_chk x2 196 <|
    wt_lt (up2 s31 114 (Int32.toNatClampNeg x2) r30) fun s33 =>
    wt_bnd (f_X4_readDigits F (1 : Int32) s33) fun r34 s35 =>
    wt_chk (x2 + (1 : Int32)) 196 <|
    wt_lt (up2 s35 114 (Int32.toNatClampNeg (x2 + (1 : Int32))) r34) fun s37 =>
    some ((), s37)
  )
theorem f_X4_readNumbers_e {F : Nat} {x1 : Int32} {x2 : Int32} {σ : Mem} : f_X4_readNumbers F x1 x2 σ = (
  if x1 = (100 : Int32) then (
    wt_bnd (f_X4_readDigits F (2 : Int32) σ) fun r2 s3 =>
    wt_chk x2 196 <|
    wt_lt (up2 s3 114 (Int32.toNatClampNeg x2) r2) fun s5 =>
    some ((), s5)
  ) else
  if x1 = (112 : Int32) then (
    wt_bnd (f_X4_readDigits F (3 : Int32) σ) fun r6 s7 =>
    wt_chk x2 196 <|
    wt_lt (up2 s7 114 (Int32.toNatClampNeg x2) r6) fun s9 =>
    some ((), s9)
  ) else
  if x1 = (115 : Int32) then (
    wt_bnd (f_X4_readDigits F (1 : Int32) σ) fun r10 s11 =>
    wt_chk x2 196 <|
    wt_lt (up2 s11 114 (Int32.toNatClampNeg x2) r10) fun s13 =>
    wt_bnd (f_X4_readDigits F (2 : Int32) s13) fun r14 s15 =>
    wt_chk (x2 + (1 : Int32)) 196 <|
    wt_lt (up2 s15 114 (Int32.toNatClampNeg (x2 + (1 : Int32))) r14) fun s17 =>
    wt_bnd (f_X4_readDigits F (2 : Int32) s17) fun r18 s19 =>
    wt_chk (x2 + (2 : Int32)) 196 <|
    wt_lt (up2 s19 114 (Int32.toNatClampNeg (x2 + (2 : Int32))) r18) fun s21 =>
    wt_bnd (f_X4_readDigits F (1 : Int32) s21) fun r22 s23 =>
    wt_chk (x2 + (3 : Int32)) 196 <|
    wt_lt (up2 s23 114 (Int32.toNatClampNeg (x2 + (3 : Int32))) r22) fun s25 =>
    some ((), s25)
  ) else
  if x1 = (117 : Int32) then (
    wt_bnd (f_X4_readDigits F (1 : Int32) σ) fun r26 s27 =>
    wt_chk x2 196 <|
    wt_lt (up2 s27 114 (Int32.toNatClampNeg x2) r26) fun s29 =>
    some ((), s29)
  ) else
  (
    wt_bnd (f_X4_readDigits F (1 : Int32) σ) fun r30 s31 =>
    wt_chk x2 196 <|
    wt_lt (up2 s31 114 (Int32.toNatClampNeg x2) r30) fun s33 =>
    wt_bnd (f_X4_readDigits F (1 : Int32) s33) fun r34 s35 =>
    wt_chk (x2 + (1 : Int32)) 196 <|
    wt_lt (up2 s35 114 (Int32.toNatClampNeg (x2 + (1 : Int32))) r34) fun s37 =>
    some ((), s37)
  )
  ) := rfl
noncomputable def j_X4_readStatement_128 (F : Nat) (t1 : Int32) (t2 : Int32) (σ : Mem) : Option (Unit × Mem) :=
  wt_lt (up2 σ 101 16 (t1 + t2)) fun s1 =>
  wt_lt (up2 s1 101 18 ((s1 101 18) + (1 : Int32))) fun s2 =>
  some ((), s2)
theorem j_X4_readStatement_128_e {F : Nat} {t1 : Int32} {t2 : Int32} {σ : Mem} : j_X4_readStatement_128 F t1 t2 σ = (
  wt_lt (up2 σ 101 16 (t1 + t2)) fun s1 =>
  wt_lt (up2 s1 101 18 ((s1 101 18) + (1 : Int32))) fun s2 =>
  some ((), s2)
  ) := rfl
noncomputable def j_X4_readStatement_108 (F : Nat) (t1 : Int32) (σ : Mem) : Option (Unit × Mem) :=
  wt_bz t1 <|
  wt_lt (up2 σ 101 17 t1) fun s3 =>
  if (s3 101 17) = 0 then (
    j_X4_readStatement_128 F (s3 101 16) (1 : Int32) s3
  ) else (
    j_X4_readStatement_128 F (s3 101 16) (0 : Int32) s3
  )
theorem j_X4_readStatement_108_e {F : Nat} {t1 : Int32} {σ : Mem} : j_X4_readStatement_108 F t1 σ = (
  wt_bz t1 <|
  wt_lt (up2 σ 101 17 t1) fun s3 =>
  if (s3 101 17) = 0 then (
    j_X4_readStatement_128 F (s3 101 16) (1 : Int32) s3
  ) else (
    j_X4_readStatement_128 F (s3 101 16) (0 : Int32) s3
  )
  ) := rfl
noncomputable def j_X4_readStatement_103 (F : Nat) (σ : Mem) : Option (Unit × Mem) :=
  j_X4_readStatement_108 F (1 : Int32) σ
theorem j_X4_readStatement_103_e {F : Nat} {σ : Mem} : j_X4_readStatement_103 F σ = (
  j_X4_readStatement_108 F (1 : Int32) σ
  ) := rfl
noncomputable def j_X4_readStatement_86 (F : Nat) (σ : Mem) : Option (Unit × Mem) :=
  if (σ 101 17) = 0 then (
    wt_bnd (f_X4_here F σ) fun r5 s6 =>
    if r5 = (59 : Int32) then (
      j_X4_readStatement_108 F (0 : Int32) s6
    ) else (
      j_X4_readStatement_103 F s6
    )
  ) else (
    j_X4_readStatement_103 F σ
  )
theorem j_X4_readStatement_86_e {F : Nat} {σ : Mem} : j_X4_readStatement_86 F σ = (
  if (σ 101 17) = 0 then (
    wt_bnd (f_X4_here F σ) fun r5 s6 =>
    if r5 = (59 : Int32) then (
      j_X4_readStatement_108 F (0 : Int32) s6
    ) else (
      j_X4_readStatement_103 F s6
    )
  ) else (
    j_X4_readStatement_103 F σ
  )
  ) := rfl
noncomputable def j_X4_readStatement_67 (F : Nat) (x1 : Int32) (x2 : Int32) (t1 : Int32) (t2 : Int32) (σ : Mem) : Option (Unit × Mem) :=
  wt_lt (up2 σ 101 16 (t1 + t2)) fun s7 =>
  if (s7 101 17) = 0 then (
    wt_bnd (f_X4_readNumbers F x2 ((4 : Int32) * x1) s7) fun r8 s9 =>
    j_X4_readStatement_86 F s9
  ) else (
    j_X4_readStatement_86 F s7
  )
theorem j_X4_readStatement_67_e {F : Nat} {x1 : Int32} {x2 : Int32} {t1 : Int32} {t2 : Int32} {σ : Mem} : j_X4_readStatement_67 F x1 x2 t1 t2 σ = (
  wt_lt (up2 σ 101 16 (t1 + t2)) fun s7 =>
  if (s7 101 17) = 0 then (
    wt_bnd (f_X4_readNumbers F x2 ((4 : Int32) * x1) s7) fun r8 s9 =>
    j_X4_readStatement_86 F s9
  ) else (
    j_X4_readStatement_86 F s7
  )
  ) := rfl
noncomputable def j_X4_readStatement_47 (F : Nat) (x1 : Int32) (x2 : Int32) (t1 : Int32) (σ : Mem) : Option (Unit × Mem) :=
  wt_bz t1 <|
  wt_lt (up2 σ 101 17 t1) fun s10 =>
  if (s10 101 17) = 0 then (
    j_X4_readStatement_67 F x1 x2 (s10 101 16) (1 : Int32) s10
  ) else (
    j_X4_readStatement_67 F x1 x2 (s10 101 16) (0 : Int32) s10
  )
theorem j_X4_readStatement_47_e {F : Nat} {x1 : Int32} {x2 : Int32} {t1 : Int32} {σ : Mem} : j_X4_readStatement_47 F x1 x2 t1 σ = (
  wt_bz t1 <|
  wt_lt (up2 σ 101 17 t1) fun s10 =>
  if (s10 101 17) = 0 then (
    j_X4_readStatement_67 F x1 x2 (s10 101 16) (1 : Int32) s10
  ) else (
    j_X4_readStatement_67 F x1 x2 (s10 101 16) (0 : Int32) s10
  )
  ) := rfl
noncomputable def j_X4_readStatement_42 (F : Nat) (x1 : Int32) (x2 : Int32) (σ : Mem) : Option (Unit × Mem) :=
  j_X4_readStatement_47 F x1 x2 (1 : Int32) σ
theorem j_X4_readStatement_42_e {F : Nat} {x1 : Int32} {x2 : Int32} {σ : Mem} : j_X4_readStatement_42 F x1 x2 σ = (
  j_X4_readStatement_47 F x1 x2 (1 : Int32) σ
  ) := rfl
noncomputable def f_X4_readStatement (F : Nat) (σ : Mem) : Option (Unit × Mem) :=
  wt_bnd (f_X4_here F σ) fun r12 s13 =>
  wt_chk (σ 101 18) 49 <|
  wt_lt (up2 s13 112 (Int32.toNatClampNeg (σ 101 18)) (s13 101 16)) fun s15 =>
  wt_lt (up2 s15 113 (Int32.toNatClampNeg (σ 101 18)) r12) fun s16 =>
  if (s16 101 17) = 0 then (
    wt_bnd (f_X4_isLetter F r12 s16) fun r17 s18 =>
    if r17 = 0 then (
      j_X4_readStatement_42 F (σ 101 18) r12 s18
    ) else (
      j_X4_readStatement_47 F (σ 101 18) r12 (0 : Int32) s18
    )
  ) else (
    j_X4_readStatement_42 F (σ 101 18) r12 s16
  )
theorem f_X4_readStatement_e {F : Nat} {σ : Mem} : f_X4_readStatement F σ = (
  wt_bnd (f_X4_here F σ) fun r12 s13 =>
  wt_chk (σ 101 18) 49 <|
  wt_lt (up2 s13 112 (Int32.toNatClampNeg (σ 101 18)) (s13 101 16)) fun s15 =>
  wt_lt (up2 s15 113 (Int32.toNatClampNeg (σ 101 18)) r12) fun s16 =>
  if (s16 101 17) = 0 then (
    wt_bnd (f_X4_isLetter F r12 s16) fun r17 s18 =>
    if r17 = 0 then (
      j_X4_readStatement_42 F (σ 101 18) r12 s18
    ) else (
      j_X4_readStatement_47 F (σ 101 18) r12 (0 : Int32) s18
    )
  ) else (
    j_X4_readStatement_42 F (σ 101 18) r12 s16
  )
  ) := rfl
noncomputable def lp_X4_lookerComes_52 (F : Nat) : Nat → Int32 → Mem → Option (Unit × Mem) := fun N => Nat.rec (motive := fun _ => Int32 → Mem → Option (Unit × Mem)) (fun _ _ => none) (fun _ ih x3 σ =>
  if (8 : Int32) ≤ x3 then (
    wt_lt (up2 σ 101 3 ((σ 101 3) + (1 : Int32))) fun s1 =>
    some ((), s1)
  ) else (
    wt_chk (((8 : Int32) * (σ 101 3)) + x3) 40 <|
    wt_lt (up2 σ 107 (Int32.toNatClampNeg (((8 : Int32) * (σ 101 3)) + x3)) (0 : Int32)) fun s3 =>
    ih (x3 + (1 : Int32)) s3
  )
  ) N
theorem lp_X4_lookerComes_52_s {F N : Nat} {x3 : Int32} {σ : Mem} : lp_X4_lookerComes_52 F (N + 1) x3 σ = (
  if (8 : Int32) ≤ x3 then (
    wt_lt (up2 σ 101 3 ((σ 101 3) + (1 : Int32))) fun s1 =>
    some ((), s1)
  ) else (
    wt_chk (((8 : Int32) * (σ 101 3)) + x3) 40 <|
    wt_lt (up2 σ 107 (Int32.toNatClampNeg (((8 : Int32) * (σ 101 3)) + x3)) (0 : Int32)) fun s3 =>
    (lp_X4_lookerComes_52 F N) (x3 + (1 : Int32)) s3
  )
  ) := rfl
noncomputable def lp_X4_lookerComes_22 (F : Nat) : Nat → Int32 → Mem → Option (Unit × Mem) := fun N => Nat.rec (motive := fun _ => Int32 → Mem → Option (Unit × Mem)) (fun _ _ => none) (fun _ ih x3 σ =>
  if (24 : Int32) ≤ x3 then (
    lp_X4_lookerComes_52 F F (0 : Int32) σ
  ) else (
    wt_chk (((24 : Int32) * (σ 101 3)) + x3) 120 <|
    wt_lt (up2 σ 106 (Int32.toNatClampNeg (((24 : Int32) * (σ 101 3)) + x3)) (-9 : Int32)) fun s5 =>
    ih (x3 + (1 : Int32)) s5
  )
  ) N
theorem lp_X4_lookerComes_22_s {F N : Nat} {x3 : Int32} {σ : Mem} : lp_X4_lookerComes_22 F (N + 1) x3 σ = (
  if (24 : Int32) ≤ x3 then (
    lp_X4_lookerComes_52 F F (0 : Int32) σ
  ) else (
    wt_chk (((24 : Int32) * (σ 101 3)) + x3) 120 <|
    wt_lt (up2 σ 106 (Int32.toNatClampNeg (((24 : Int32) * (σ 101 3)) + x3)) (-9 : Int32)) fun s5 =>
    (lp_X4_lookerComes_22 F N) (x3 + (1 : Int32)) s5
  )
  ) := rfl
noncomputable def f_X4_lookerComes (F : Nat) (x1 : Int32) (x2 : Int32) (σ : Mem) : Option (Unit × Mem) :=
  wt_chk (σ 101 3) 5 <|
  wt_lt (up2 σ 104 (Int32.toNatClampNeg (σ 101 3)) x1) fun s7 =>
  wt_chk (s7 101 3) 5 <|
  wt_lt (up2 s7 105 (Int32.toNatClampNeg (s7 101 3)) x2) fun s9 =>
  lp_X4_lookerComes_22 F F (0 : Int32) s9
theorem f_X4_lookerComes_e {F : Nat} {x1 : Int32} {x2 : Int32} {σ : Mem} : f_X4_lookerComes F x1 x2 σ = (
  wt_chk (σ 101 3) 5 <|
  wt_lt (up2 σ 104 (Int32.toNatClampNeg (σ 101 3)) x1) fun s7 =>
  wt_chk (s7 101 3) 5 <|
  wt_lt (up2 s7 105 (Int32.toNatClampNeg (s7 101 3)) x2) fun s9 =>
  lp_X4_lookerComes_22 F F (0 : Int32) s9
  ) := rfl
noncomputable def j_X4_stand_34 (F : Nat) (k3 : Int32 → Mem → Option (Unit × Mem)) (x1 : Int32) (x3 : Int32) (x4 : Int32) (x5 : Int32) (t1 : Int32) (t2 : Int32) (σ : Mem) : Option (Unit × Mem) :=
  wt_chk t1 120 <|
  wt_lt (up2 σ 106 (Int32.toNatClampNeg t1) t2) fun s2 =>
  k3 (x5 + (1 : Int32)) s2
theorem j_X4_stand_34_e {F : Nat} {k3 : Int32 → Mem → Option (Unit × Mem)} {x1 : Int32} {x3 : Int32} {x4 : Int32} {x5 : Int32} {t1 : Int32} {t2 : Int32} {σ : Mem} : j_X4_stand_34 F k3 x1 x3 x4 x5 t1 t2 σ = (
  wt_chk t1 120 <|
  wt_lt (up2 σ 106 (Int32.toNatClampNeg t1) t2) fun s2 =>
  k3 (x5 + (1 : Int32)) s2
  ) := rfl
noncomputable def lp_X4_stand_3 (F : Nat) (x1 : Int32) (x3 : Int32) (x4 : Int32) : Nat → Int32 → Mem → Option (Unit × Mem) := fun N => Nat.rec (motive := fun _ => Int32 → Mem → Option (Unit × Mem)) (fun _ _ => none) (fun _ ih x5 σ =>
  if x3 < x5 then (
    some ((), σ)
  ) else (
    if x4 = (9 : Int32) then (
      j_X4_stand_34 F ih x1 x3 x4 x5 (((24 : Int32) * x1) + x5) (-9 : Int32) σ
    ) else (
      j_X4_stand_34 F ih x1 x3 x4 x5 (((24 : Int32) * x1) + x5) x4 σ
    )
  )
  ) N
theorem lp_X4_stand_3_s {F N : Nat} {x1 : Int32} {x3 : Int32} {x4 : Int32} {x5 : Int32} {σ : Mem} : lp_X4_stand_3 F x1 x3 x4 (N + 1) x5 σ = (
  if x3 < x5 then (
    some ((), σ)
  ) else (
    if x4 = (9 : Int32) then (
      j_X4_stand_34 F (lp_X4_stand_3 F x1 x3 x4 N) x1 x3 x4 x5 (((24 : Int32) * x1) + x5) (-9 : Int32) σ
    ) else (
      j_X4_stand_34 F (lp_X4_stand_3 F x1 x3 x4 N) x1 x3 x4 x5 (((24 : Int32) * x1) + x5) x4 σ
    )
  )
  ) := rfl
noncomputable def f_X4_stand (F : Nat) (x1 : Int32) (x2 : Int32) (x3 : Int32) (x4 : Int32) (σ : Mem) : Option (Unit × Mem) :=
  lp_X4_stand_3 F x1 x3 x4 F x2 σ
theorem f_X4_stand_e {F : Nat} {x1 : Int32} {x2 : Int32} {x3 : Int32} {x4 : Int32} {σ : Mem} : f_X4_stand F x1 x2 x3 x4 σ = (
  lp_X4_stand_3 F x1 x3 x4 F x2 σ
  ) := rfl
noncomputable def j_X4_comesTold_164 (F : Nat) (x6 : Int32) (σ : Mem) : Option (Int32 × Mem) :=
  wt_bz x6 <|
  some (x6, σ)
theorem j_X4_comesTold_164_e {F : Nat} {x6 : Int32} {σ : Mem} : j_X4_comesTold_164 F x6 σ = (
  wt_bz x6 <|
  some (x6, σ)
  ) := rfl
noncomputable def j_X4_comesTold_137 (F : Nat) (x2 : Int32) (t0 : Int32) (σ : Mem) : Option (Int32 × Mem) :=
  if t0 = 0 then (
    j_X4_comesTold_164 F t0 σ
  ) else (
    wt_chk (σ 101 1) 6 <|
    wt_lt (up2 σ 103 (Int32.toNatClampNeg (σ 101 1)) x2) fun s2 =>
    wt_lt (up2 s2 101 1 ((s2 101 1) + (1 : Int32))) fun s3 =>
    j_X4_comesTold_164 F t0 s3
  )
theorem j_X4_comesTold_137_e {F : Nat} {x2 : Int32} {t0 : Int32} {σ : Mem} : j_X4_comesTold_137 F x2 t0 σ = (
  if t0 = 0 then (
    j_X4_comesTold_164 F t0 σ
  ) else (
    wt_chk (σ 101 1) 6 <|
    wt_lt (up2 σ 103 (Int32.toNatClampNeg (σ 101 1)) x2) fun s2 =>
    wt_lt (up2 s2 101 1 ((s2 101 1) + (1 : Int32))) fun s3 =>
    j_X4_comesTold_164 F t0 s3
  )
  ) := rfl
noncomputable def j_X4_comesTold_136 (F : Nat) (x2 : Int32) (σ : Mem) : Option (Int32 × Mem) :=
  j_X4_comesTold_137 F x2 (0 : Int32) σ
theorem j_X4_comesTold_136_e {F : Nat} {x2 : Int32} {σ : Mem} : j_X4_comesTold_136 F x2 σ = (
  j_X4_comesTold_137 F x2 (0 : Int32) σ
  ) := rfl
noncomputable def j_X4_comesTold_199 (F : Nat) (x6 : Int32) (σ : Mem) : Option (Int32 × Mem) :=
  wt_bz x6 <|
  some (x6, σ)
theorem j_X4_comesTold_199_e {F : Nat} {x6 : Int32} {σ : Mem} : j_X4_comesTold_199 F x6 σ = (
  wt_bz x6 <|
  some (x6, σ)
  ) := rfl
noncomputable def j_X4_comesTold_186 (F : Nat) (x2 : Int32) (x3 : Int32) (t0 : Int32) (σ : Mem) : Option (Int32 × Mem) :=
  if t0 = 0 then (
    j_X4_comesTold_199 F t0 σ
  ) else (
    wt_bnd (f_X4_lookerComes F x2 x3 σ) fun r4 s5 =>
    j_X4_comesTold_199 F t0 s5
  )
theorem j_X4_comesTold_186_e {F : Nat} {x2 : Int32} {x3 : Int32} {t0 : Int32} {σ : Mem} : j_X4_comesTold_186 F x2 x3 t0 σ = (
  if t0 = 0 then (
    j_X4_comesTold_199 F t0 σ
  ) else (
    wt_bnd (f_X4_lookerComes F x2 x3 σ) fun r4 s5 =>
    j_X4_comesTold_199 F t0 s5
  )
  ) := rfl
noncomputable def j_X4_comesTold_185 (F : Nat) (x2 : Int32) (x3 : Int32) (σ : Mem) : Option (Int32 × Mem) :=
  j_X4_comesTold_186 F x2 x3 (0 : Int32) σ
theorem j_X4_comesTold_185_e {F : Nat} {x2 : Int32} {x3 : Int32} {σ : Mem} : j_X4_comesTold_185 F x2 x3 σ = (
  j_X4_comesTold_186 F x2 x3 (0 : Int32) σ
  ) := rfl
noncomputable def j_X4_comesTold_261 (F : Nat) (x6 : Int32) (σ : Mem) : Option (Int32 × Mem) :=
  wt_bz x6 <|
  some (x6, σ)
theorem j_X4_comesTold_261_e {F : Nat} {x6 : Int32} {σ : Mem} : j_X4_comesTold_261 F x6 σ = (
  wt_bz x6 <|
  some (x6, σ)
  ) := rfl
noncomputable def j_X4_comesTold_244 (F : Nat) (x2 : Int32) (x3 : Int32) (x4 : Int32) (x5 : Int32) (t0 : Int32) (σ : Mem) : Option (Int32 × Mem) :=
  if t0 = 0 then (
    j_X4_comesTold_261 F t0 σ
  ) else (
    wt_bnd (f_X4_stand F x2 x3 x4 x5 σ) fun r6 s7 =>
    j_X4_comesTold_261 F t0 s7
  )
theorem j_X4_comesTold_244_e {F : Nat} {x2 : Int32} {x3 : Int32} {x4 : Int32} {x5 : Int32} {t0 : Int32} {σ : Mem} : j_X4_comesTold_244 F x2 x3 x4 x5 t0 σ = (
  if t0 = 0 then (
    j_X4_comesTold_261 F t0 σ
  ) else (
    wt_bnd (f_X4_stand F x2 x3 x4 x5 σ) fun r6 s7 =>
    j_X4_comesTold_261 F t0 s7
  )
  ) := rfl
noncomputable def j_X4_comesTold_239 (F : Nat) (x2 : Int32) (x3 : Int32) (x4 : Int32) (x5 : Int32) (σ : Mem) : Option (Int32 × Mem) :=
  j_X4_comesTold_244 F x2 x3 x4 x5 (1 : Int32) σ
theorem j_X4_comesTold_239_e {F : Nat} {x2 : Int32} {x3 : Int32} {x4 : Int32} {x5 : Int32} {σ : Mem} : j_X4_comesTold_239 F x2 x3 x4 x5 σ = (
  j_X4_comesTold_244 F x2 x3 x4 x5 (1 : Int32) σ
  ) := rfl
noncomputable def j_X4_comesTold_243 (F : Nat) (x2 : Int32) (x3 : Int32) (x4 : Int32) (x5 : Int32) (σ : Mem) : Option (Int32 × Mem) :=
  j_X4_comesTold_244 F x2 x3 x4 x5 (0 : Int32) σ
theorem j_X4_comesTold_243_e {F : Nat} {x2 : Int32} {x3 : Int32} {x4 : Int32} {x5 : Int32} {σ : Mem} : j_X4_comesTold_243 F x2 x3 x4 x5 σ = (
  j_X4_comesTold_244 F x2 x3 x4 x5 (0 : Int32) σ
  ) := rfl
noncomputable def j_X4_comesTold_289 (F : Nat) (x6 : Int32) (σ : Mem) : Option (Int32 × Mem) :=
  wt_bz x6 <|
  some (x6, σ)
theorem j_X4_comesTold_289_e {F : Nat} {x6 : Int32} {σ : Mem} : j_X4_comesTold_289 F x6 σ = (
  wt_bz x6 <|
  some (x6, σ)
  ) := rfl
noncomputable def j_X4_comesTold_275 (F : Nat) (x2 : Int32) (x3 : Int32) (t0 : Int32) (σ : Mem) : Option (Int32 × Mem) :=
  if t0 = 0 then (
    j_X4_comesTold_289 F t0 σ
  ) else (
    wt_chk x2 8 <|
    wt_lt (up2 σ 102 (Int32.toNatClampNeg x2) x3) fun s9 =>
    j_X4_comesTold_289 F t0 s9
  )
theorem j_X4_comesTold_275_e {F : Nat} {x2 : Int32} {x3 : Int32} {t0 : Int32} {σ : Mem} : j_X4_comesTold_275 F x2 x3 t0 σ = (
  if t0 = 0 then (
    j_X4_comesTold_289 F t0 σ
  ) else (
    wt_chk x2 8 <|
    wt_lt (up2 σ 102 (Int32.toNatClampNeg x2) x3) fun s9 =>
    j_X4_comesTold_289 F t0 s9
  )
  ) := rfl
noncomputable def j_X4_comesTold_330 (F : Nat) (x6 : Int32) (σ : Mem) : Option (Int32 × Mem) :=
  wt_bz x6 <|
  some (x6, σ)
theorem j_X4_comesTold_330_e {F : Nat} {x6 : Int32} {σ : Mem} : j_X4_comesTold_330 F x6 σ = (
  wt_bz x6 <|
  some (x6, σ)
  ) := rfl
noncomputable def j_X4_comesTold_311 (F : Nat) (x2 : Int32) (x3 : Int32) (t0 : Int32) (σ : Mem) : Option (Int32 × Mem) :=
  if t0 = 0 then (
    j_X4_comesTold_330 F t0 σ
  ) else (
    wt_chk x2 6 <|
    wt_lt (up2 σ 103 (Int32.toNatClampNeg x2) ((σ 103 (Int32.toNatClampNeg x2)) ^^^ ((1 : Int32) <<< (x3 &&& 31)))) fun s11 =>
    j_X4_comesTold_330 F t0 s11
  )
theorem j_X4_comesTold_311_e {F : Nat} {x2 : Int32} {x3 : Int32} {t0 : Int32} {σ : Mem} : j_X4_comesTold_311 F x2 x3 t0 σ = (
  if t0 = 0 then (
    j_X4_comesTold_330 F t0 σ
  ) else (
    wt_chk x2 6 <|
    wt_lt (up2 σ 103 (Int32.toNatClampNeg x2) ((σ 103 (Int32.toNatClampNeg x2)) ^^^ ((1 : Int32) <<< (x3 &&& 31)))) fun s11 =>
    j_X4_comesTold_330 F t0 s11
  )
  ) := rfl
noncomputable def j_X4_comesTold_310 (F : Nat) (x2 : Int32) (x3 : Int32) (σ : Mem) : Option (Int32 × Mem) :=
  j_X4_comesTold_311 F x2 x3 (0 : Int32) σ
theorem j_X4_comesTold_310_e {F : Nat} {x2 : Int32} {x3 : Int32} {σ : Mem} : j_X4_comesTold_310 F x2 x3 σ = (
  j_X4_comesTold_311 F x2 x3 (0 : Int32) σ
  ) := rfl
noncomputable def j_X4_comesTold_390 (F : Nat) (x6 : Int32) (σ : Mem) : Option (Int32 × Mem) :=
  wt_bz x6 <|
  some (x6, σ)
theorem j_X4_comesTold_390_e {F : Nat} {x6 : Int32} {σ : Mem} : j_X4_comesTold_390 F x6 σ = (
  wt_bz x6 <|
  some (x6, σ)
  ) := rfl
noncomputable def j_X4_comesTold_378 (F : Nat) (x2 : Int32) (t0 : Int32) (σ : Mem) : Option (Int32 × Mem) :=
  if t0 = 0 then (
    j_X4_comesTold_390 F t0 σ
  ) else (
    wt_bnd (f_X4_goDays F x2 σ) fun r12 s13 =>
    j_X4_comesTold_390 F t0 s13
  )
theorem j_X4_comesTold_378_e {F : Nat} {x2 : Int32} {t0 : Int32} {σ : Mem} : j_X4_comesTold_378 F x2 t0 σ = (
  if t0 = 0 then (
    j_X4_comesTold_390 F t0 σ
  ) else (
    wt_bnd (f_X4_goDays F x2 σ) fun r12 s13 =>
    j_X4_comesTold_390 F t0 s13
  )
  ) := rfl
noncomputable def j_X4_comesTold_377 (F : Nat) (x2 : Int32) (σ : Mem) : Option (Int32 × Mem) :=
  j_X4_comesTold_378 F x2 (0 : Int32) σ
theorem j_X4_comesTold_377_e {F : Nat} {x2 : Int32} {σ : Mem} : j_X4_comesTold_377 F x2 σ = (
  j_X4_comesTold_378 F x2 (0 : Int32) σ
  ) := rfl
noncomputable def f_X4_comesTold (F : Nat) (x1 : Int32) (σ : Mem) : Option (Int32 × Mem) :=
  wt_chk ((4 : Int32) * x1) 196 <|
  wt_lt (σ 114 (Int32.toNatClampNeg ((4 : Int32) * x1))) fun z15 =>
  wt_chk (((4 : Int32) * x1) + (1 : Int32)) 196 <|
  wt_lt (σ 114 (Int32.toNatClampNeg (((4 : Int32) * x1) + (1 : Int32)))) fun z17 =>
  wt_chk (((4 : Int32) * x1) + (2 : Int32)) 196 <|
  wt_lt (σ 114 (Int32.toNatClampNeg (((4 : Int32) * x1) + (2 : Int32)))) fun z19 =>
  wt_chk (((4 : Int32) * x1) + (3 : Int32)) 196 <|
  wt_lt (σ 114 (Int32.toNatClampNeg (((4 : Int32) * x1) + (3 : Int32)))) fun z21 =>
  wt_chk x1 49 <|
  if (σ 113 (Int32.toNatClampNeg x1)) = (108 : Int32) then (
    if (6 : Int32) ≤ z15 then (
      j_X4_comesTold_185 F z15 z17 σ
    ) else (
      if (5 : Int32) ≤ (σ 101 3) then (
        j_X4_comesTold_185 F z15 z17 σ
      ) else (
        j_X4_comesTold_186 F z15 z17 (1 : Int32) σ
      )
    )
  ) else
  if (σ 113 (Int32.toNatClampNeg x1)) = (112 : Int32) then (
    if (255 : Int32) < z15 then (
      j_X4_comesTold_136 F z15 σ
    ) else (
      if (6 : Int32) ≤ (σ 101 1) then (
        j_X4_comesTold_136 F z15 σ
      ) else (
        j_X4_comesTold_137 F z15 (1 : Int32) σ
      )
    )
  ) else
  if (σ 113 (Int32.toNatClampNeg x1)) = (115 : Int32) then (
    wt_bnd (f_X4_isLooker F z15 σ) fun r24 s25 =>
    if r24 = 0 then (
      j_X4_comesTold_243 F z15 z17 z19 z21 s25
    ) else (
      if z19 < z17 then (
        j_X4_comesTold_243 F z15 z17 z19 z21 s25
      ) else (
        if (24 : Int32) ≤ z19 then (
          j_X4_comesTold_243 F z15 z17 z19 z21 s25
        ) else (
          if z21 = (9 : Int32) then (
            j_X4_comesTold_239 F z15 z17 z19 z21 s25
          ) else (
            wt_bnd (f_X4_isPane F z21 s25) fun r26 s27 =>
            if r26 = 0 then (
              j_X4_comesTold_243 F z15 z17 z19 z21 s27
            ) else (
              j_X4_comesTold_239 F z15 z17 z19 z21 s27
            )
          )
        )
      )
    )
  ) else
  if (σ 113 (Int32.toNatClampNeg x1)) = (117 : Int32) then (
    wt_lt (up2 σ 101 8 z15) fun s28 =>
    if (3 : Int32) ≤ z15 then (
      some ((0 : Int32), s28)
    ) else (
      some ((1 : Int32), s28)
    )
  ) else
  if (σ 113 (Int32.toNatClampNeg x1)) = (118 : Int32) then (
    if (8 : Int32) ≤ z15 then (
      j_X4_comesTold_275 F z15 z17 (0 : Int32) σ
    ) else (
      j_X4_comesTold_275 F z15 z17 (1 : Int32) σ
    )
  ) else
  if (σ 113 (Int32.toNatClampNeg x1)) = (119 : Int32) then (
    wt_bnd (f_X4_isPane F z15 σ) fun r29 s30 =>
    if r29 = 0 then (
      j_X4_comesTold_310 F z15 z17 s30
    ) else (
      if (8 : Int32) ≤ z17 then (
        j_X4_comesTold_310 F z15 z17 s30
      ) else (
        j_X4_comesTold_311 F z15 z17 (1 : Int32) s30
      )
    )
  ) else
  (
    wt_bnd (f_X4_in F (Int32.toInt64 z15) (1 : Int64) (60 : Int64) σ) fun r31 s32 =>
    if r31 = 0 then (
      j_X4_comesTold_377 F z15 s32
    ) else (
      if (9999 : Int32) < ((s32 101 9) + z15) then (
        j_X4_comesTold_377 F z15 s32
      ) else (
        j_X4_comesTold_378 F z15 (1 : Int32) s32
      )
    )
  )
theorem f_X4_comesTold_e {F : Nat} {x1 : Int32} {σ : Mem} : f_X4_comesTold F x1 σ = (
  wt_chk ((4 : Int32) * x1) 196 <|
  wt_lt (σ 114 (Int32.toNatClampNeg ((4 : Int32) * x1))) fun z15 =>
  wt_chk (((4 : Int32) * x1) + (1 : Int32)) 196 <|
  wt_lt (σ 114 (Int32.toNatClampNeg (((4 : Int32) * x1) + (1 : Int32)))) fun z17 =>
  wt_chk (((4 : Int32) * x1) + (2 : Int32)) 196 <|
  wt_lt (σ 114 (Int32.toNatClampNeg (((4 : Int32) * x1) + (2 : Int32)))) fun z19 =>
  wt_chk (((4 : Int32) * x1) + (3 : Int32)) 196 <|
  wt_lt (σ 114 (Int32.toNatClampNeg (((4 : Int32) * x1) + (3 : Int32)))) fun z21 =>
  wt_chk x1 49 <|
  if (σ 113 (Int32.toNatClampNeg x1)) = (108 : Int32) then (
    if (6 : Int32) ≤ z15 then (
      j_X4_comesTold_185 F z15 z17 σ
    ) else (
      if (5 : Int32) ≤ (σ 101 3) then (
        j_X4_comesTold_185 F z15 z17 σ
      ) else (
        j_X4_comesTold_186 F z15 z17 (1 : Int32) σ
      )
    )
  ) else
  if (σ 113 (Int32.toNatClampNeg x1)) = (112 : Int32) then (
    if (255 : Int32) < z15 then (
      j_X4_comesTold_136 F z15 σ
    ) else (
      if (6 : Int32) ≤ (σ 101 1) then (
        j_X4_comesTold_136 F z15 σ
      ) else (
        j_X4_comesTold_137 F z15 (1 : Int32) σ
      )
    )
  ) else
  if (σ 113 (Int32.toNatClampNeg x1)) = (115 : Int32) then (
    wt_bnd (f_X4_isLooker F z15 σ) fun r24 s25 =>
    if r24 = 0 then (
      j_X4_comesTold_243 F z15 z17 z19 z21 s25
    ) else (
      if z19 < z17 then (
        j_X4_comesTold_243 F z15 z17 z19 z21 s25
      ) else (
        if (24 : Int32) ≤ z19 then (
          j_X4_comesTold_243 F z15 z17 z19 z21 s25
        ) else (
          if z21 = (9 : Int32) then (
            j_X4_comesTold_239 F z15 z17 z19 z21 s25
          ) else (
            wt_bnd (f_X4_isPane F z21 s25) fun r26 s27 =>
            if r26 = 0 then (
              j_X4_comesTold_243 F z15 z17 z19 z21 s27
            ) else (
              j_X4_comesTold_239 F z15 z17 z19 z21 s27
            )
          )
        )
      )
    )
  ) else
  if (σ 113 (Int32.toNatClampNeg x1)) = (117 : Int32) then (
    wt_lt (up2 σ 101 8 z15) fun s28 =>
    if (3 : Int32) ≤ z15 then (
      some ((0 : Int32), s28)
    ) else (
      some ((1 : Int32), s28)
    )
  ) else
  if (σ 113 (Int32.toNatClampNeg x1)) = (118 : Int32) then (
    if (8 : Int32) ≤ z15 then (
      j_X4_comesTold_275 F z15 z17 (0 : Int32) σ
    ) else (
      j_X4_comesTold_275 F z15 z17 (1 : Int32) σ
    )
  ) else
  if (σ 113 (Int32.toNatClampNeg x1)) = (119 : Int32) then (
    wt_bnd (f_X4_isPane F z15 σ) fun r29 s30 =>
    if r29 = 0 then (
      j_X4_comesTold_310 F z15 z17 s30
    ) else (
      if (8 : Int32) ≤ z17 then (
        j_X4_comesTold_310 F z15 z17 s30
      ) else (
        j_X4_comesTold_311 F z15 z17 (1 : Int32) s30
      )
    )
  ) else
  (
    wt_bnd (f_X4_in F (Int32.toInt64 z15) (1 : Int64) (60 : Int64) σ) fun r31 s32 =>
    if r31 = 0 then (
      j_X4_comesTold_377 F z15 s32
    ) else (
      if (9999 : Int32) < ((s32 101 9) + z15) then (
        j_X4_comesTold_377 F z15 s32
      ) else (
        j_X4_comesTold_378 F z15 (1 : Int32) s32
      )
    )
  )
  ) := rfl
noncomputable def j_X4_carry_17 (F : Nat) (σ : Mem) : Option (Int32 × Mem) :=
  wt_lt (up2 σ 101 25 ((σ 101 25) + (1 : Int32))) fun s1 =>
  wt_rk (s1 101 27) <|
  wt_chk ((s1 101 25) - (1 : Int32)) 188 <|
  some ((s1 (Int32.toNatClampNeg (s1 101 27)) (Int32.toNatClampNeg ((s1 101 25) - (1 : Int32)))), s1)
theorem j_X4_carry_17_e {F : Nat} {σ : Mem} : j_X4_carry_17 F σ = (
  wt_lt (up2 σ 101 25 ((σ 101 25) + (1 : Int32))) fun s1 =>
  wt_rk (s1 101 27) <|
  wt_chk ((s1 101 25) - (1 : Int32)) 188 <|
  some ((s1 (Int32.toNatClampNeg (s1 101 27)) (Int32.toNatClampNeg ((s1 101 25) - (1 : Int32)))), s1)
  ) := rfl
noncomputable def f_X4_carry (F : Nat) (x1 : Int32) (σ : Mem) : Option (Int32 × Mem) :=
  if (σ 101 26) = 0 then (
    j_X4_carry_17 F σ
  ) else (
    wt_rk (σ 101 27) <|
    wt_chk (σ 101 25) 188 <|
    wt_lt (up2 σ (Int32.toNatClampNeg (σ 101 27)) (Int32.toNatClampNeg (σ 101 25)) x1) fun s6 =>
    j_X4_carry_17 F s6
  )
theorem f_X4_carry_e {F : Nat} {x1 : Int32} {σ : Mem} : f_X4_carry F x1 σ = (
  if (σ 101 26) = 0 then (
    j_X4_carry_17 F σ
  ) else (
    wt_rk (σ 101 27) <|
    wt_chk (σ 101 25) 188 <|
    wt_lt (up2 σ (Int32.toNatClampNeg (σ 101 27)) (Int32.toNatClampNeg (σ 101 25)) x1) fun s6 =>
    j_X4_carry_17 F s6
  )
  ) := rfl
noncomputable def lp_X4_carryAll_200 (F : Nat) : Nat → Int32 → Mem → Option (Unit × Mem) := fun N => Nat.rec (motive := fun _ => Int32 → Mem → Option (Unit × Mem)) (fun _ _ => none) (fun _ ih x3 σ =>
  if (40 : Int32) ≤ x3 then (
    some ((), σ)
  ) else (
    wt_chk x3 40 <|
    wt_bnd (f_X4_carry F (σ 107 (Int32.toNatClampNeg x3)) σ) fun r2 s3 =>
    wt_lt (up2 s3 107 (Int32.toNatClampNeg x3) r2) fun s4 =>
    ih (x3 + (1 : Int32)) s4
  )
  ) N
theorem lp_X4_carryAll_200_s {F N : Nat} {x3 : Int32} {σ : Mem} : lp_X4_carryAll_200 F (N + 1) x3 σ = (
  if (40 : Int32) ≤ x3 then (
    some ((), σ)
  ) else (
    wt_chk x3 40 <|
    wt_bnd (f_X4_carry F (σ 107 (Int32.toNatClampNeg x3)) σ) fun r2 s3 =>
    wt_lt (up2 s3 107 (Int32.toNatClampNeg x3) r2) fun s4 =>
    (lp_X4_carryAll_200 F N) (x3 + (1 : Int32)) s4
  )
  ) := rfl
noncomputable def lp_X4_carryAll_170 (F : Nat) : Nat → Int32 → Mem → Option (Unit × Mem) := fun N => Nat.rec (motive := fun _ => Int32 → Mem → Option (Unit × Mem)) (fun _ _ => none) (fun _ ih x3 σ =>
  if (120 : Int32) ≤ x3 then (
    lp_X4_carryAll_200 F F (0 : Int32) σ
  ) else (
    wt_chk x3 120 <|
    wt_bnd (f_X4_carry F (σ 106 (Int32.toNatClampNeg x3)) σ) fun r6 s7 =>
    wt_lt (up2 s7 106 (Int32.toNatClampNeg x3) r6) fun s8 =>
    ih (x3 + (1 : Int32)) s8
  )
  ) N
theorem lp_X4_carryAll_170_s {F N : Nat} {x3 : Int32} {σ : Mem} : lp_X4_carryAll_170 F (N + 1) x3 σ = (
  if (120 : Int32) ≤ x3 then (
    lp_X4_carryAll_200 F F (0 : Int32) σ
  ) else (
    wt_chk x3 120 <|
    wt_bnd (f_X4_carry F (σ 106 (Int32.toNatClampNeg x3)) σ) fun r6 s7 =>
    wt_lt (up2 s7 106 (Int32.toNatClampNeg x3) r6) fun s8 =>
    (lp_X4_carryAll_170 F N) (x3 + (1 : Int32)) s8
  )
  ) := rfl
noncomputable def lp_X4_carryAll_125 (F : Nat) : Nat → Int32 → Mem → Option (Unit × Mem) := fun N => Nat.rec (motive := fun _ => Int32 → Mem → Option (Unit × Mem)) (fun _ _ => none) (fun _ ih x3 σ =>
  if (5 : Int32) ≤ x3 then (
    lp_X4_carryAll_170 F F (0 : Int32) σ
  ) else (
    wt_chk x3 5 <|
    wt_bnd (f_X4_carry F (σ 104 (Int32.toNatClampNeg x3)) σ) fun r10 s11 =>
    wt_lt (up2 s11 104 (Int32.toNatClampNeg x3) r10) fun s12 =>
    wt_bnd (f_X4_carry F (s12 105 (Int32.toNatClampNeg x3)) s12) fun r13 s14 =>
    wt_lt (up2 s14 105 (Int32.toNatClampNeg x3) r13) fun s15 =>
    ih (x3 + (1 : Int32)) s15
  )
  ) N
theorem lp_X4_carryAll_125_s {F N : Nat} {x3 : Int32} {σ : Mem} : lp_X4_carryAll_125 F (N + 1) x3 σ = (
  if (5 : Int32) ≤ x3 then (
    lp_X4_carryAll_170 F F (0 : Int32) σ
  ) else (
    wt_chk x3 5 <|
    wt_bnd (f_X4_carry F (σ 104 (Int32.toNatClampNeg x3)) σ) fun r10 s11 =>
    wt_lt (up2 s11 104 (Int32.toNatClampNeg x3) r10) fun s12 =>
    wt_bnd (f_X4_carry F (s12 105 (Int32.toNatClampNeg x3)) s12) fun r13 s14 =>
    wt_lt (up2 s14 105 (Int32.toNatClampNeg x3) r13) fun s15 =>
    (lp_X4_carryAll_125 F N) (x3 + (1 : Int32)) s15
  )
  ) := rfl
noncomputable def lp_X4_carryAll_95 (F : Nat) : Nat → Int32 → Mem → Option (Unit × Mem) := fun N => Nat.rec (motive := fun _ => Int32 → Mem → Option (Unit × Mem)) (fun _ _ => none) (fun _ ih x3 σ =>
  if (6 : Int32) ≤ x3 then (
    lp_X4_carryAll_125 F F (0 : Int32) σ
  ) else (
    wt_chk x3 6 <|
    wt_bnd (f_X4_carry F (σ 103 (Int32.toNatClampNeg x3)) σ) fun r17 s18 =>
    wt_lt (up2 s18 103 (Int32.toNatClampNeg x3) r17) fun s19 =>
    ih (x3 + (1 : Int32)) s19
  )
  ) N
theorem lp_X4_carryAll_95_s {F N : Nat} {x3 : Int32} {σ : Mem} : lp_X4_carryAll_95 F (N + 1) x3 σ = (
  if (6 : Int32) ≤ x3 then (
    lp_X4_carryAll_125 F F (0 : Int32) σ
  ) else (
    wt_chk x3 6 <|
    wt_bnd (f_X4_carry F (σ 103 (Int32.toNatClampNeg x3)) σ) fun r17 s18 =>
    wt_lt (up2 s18 103 (Int32.toNatClampNeg x3) r17) fun s19 =>
    (lp_X4_carryAll_95 F N) (x3 + (1 : Int32)) s19
  )
  ) := rfl
noncomputable def lp_X4_carryAll_65 (F : Nat) : Nat → Int32 → Mem → Option (Unit × Mem) := fun N => Nat.rec (motive := fun _ => Int32 → Mem → Option (Unit × Mem)) (fun _ _ => none) (fun _ ih x3 σ =>
  if (8 : Int32) ≤ x3 then (
    lp_X4_carryAll_95 F F (0 : Int32) σ
  ) else (
    wt_chk x3 8 <|
    wt_bnd (f_X4_carry F (σ 102 (Int32.toNatClampNeg x3)) σ) fun r21 s22 =>
    wt_lt (up2 s22 102 (Int32.toNatClampNeg x3) r21) fun s23 =>
    ih (x3 + (1 : Int32)) s23
  )
  ) N
theorem lp_X4_carryAll_65_s {F N : Nat} {x3 : Int32} {σ : Mem} : lp_X4_carryAll_65 F (N + 1) x3 σ = (
  if (8 : Int32) ≤ x3 then (
    lp_X4_carryAll_95 F F (0 : Int32) σ
  ) else (
    wt_chk x3 8 <|
    wt_bnd (f_X4_carry F (σ 102 (Int32.toNatClampNeg x3)) σ) fun r21 s22 =>
    wt_lt (up2 s22 102 (Int32.toNatClampNeg x3) r21) fun s23 =>
    (lp_X4_carryAll_65 F N) (x3 + (1 : Int32)) s23
  )
  ) := rfl
noncomputable def f_X4_carryAll (F : Nat) (a : Nat) (x2 : Int32) (σ : Mem) : Option (Unit × Mem) :=
  wt_lt (up2 σ 101 27 (Int32.ofNat a)) fun s24 =>
  wt_bz x2 <|
  wt_lt (up2 s24 101 26 x2) fun s25 =>
  wt_lt (up2 s25 101 25 (0 : Int32)) fun s27 =>
  wt_bnd (f_X4_carry F (s27 101 1) s27) fun r28 s29 =>
  wt_lt (up2 s29 101 1 r28) fun s30 =>
  wt_bnd (f_X4_carry F (s30 101 3) s30) fun r31 s32 =>
  wt_lt (up2 s32 101 3 r31) fun s33 =>
  wt_bnd (f_X4_carry F (s33 101 8) s33) fun r34 s35 =>
  wt_lt (up2 s35 101 8 r34) fun s36 =>
  wt_bnd (f_X4_carry F (s36 101 9) s36) fun r37 s38 =>
  wt_lt (up2 s38 101 9 r37) fun s39 =>
  lp_X4_carryAll_65 F F (0 : Int32) s39
theorem f_X4_carryAll_e {F : Nat} {a : Nat} {x2 : Int32} {σ : Mem} : f_X4_carryAll F a x2 σ = (
  wt_lt (up2 σ 101 27 (Int32.ofNat a)) fun s24 =>
  wt_bz x2 <|
  wt_lt (up2 s24 101 26 x2) fun s25 =>
  wt_lt (up2 s25 101 25 (0 : Int32)) fun s27 =>
  wt_bnd (f_X4_carry F (s27 101 1) s27) fun r28 s29 =>
  wt_lt (up2 s29 101 1 r28) fun s30 =>
  wt_bnd (f_X4_carry F (s30 101 3) s30) fun r31 s32 =>
  wt_lt (up2 s32 101 3 r31) fun s33 =>
  wt_bnd (f_X4_carry F (s33 101 8) s33) fun r34 s35 =>
  wt_lt (up2 s35 101 8 r34) fun s36 =>
  wt_bnd (f_X4_carry F (s36 101 9) s36) fun r37 s38 =>
  wt_lt (up2 s38 101 9 r37) fun s39 =>
  lp_X4_carryAll_65 F F (0 : Int32) s39
  ) := rfl
noncomputable def f_X4_think (F : Nat) (σ : Mem) : Option (Unit × Mem) :=
  wt_bnd (f_X4_carryAll F 115 (1 : Int32) σ) fun r1 s2 =>
  some ((), s2)
theorem f_X4_think_e {F : Nat} {σ : Mem} : f_X4_think F σ = (
  wt_bnd (f_X4_carryAll F 115 (1 : Int32) σ) fun r1 s2 =>
  some ((), s2)
  ) := rfl
noncomputable def f_X4_again (F : Nat) (σ : Mem) : Option (Unit × Mem) :=
  wt_bnd (f_X4_carryAll F 115 (0 : Int32) σ) fun r1 s2 =>
  some ((), s2)
theorem f_X4_again_e {F : Nat} {σ : Mem} : f_X4_again F σ = (
  wt_bnd (f_X4_carryAll F 115 (0 : Int32) σ) fun r1 s2 =>
  some ((), s2)
  ) := rfl
noncomputable def j_X4_terrace_45 (F : Nat) (k20 : Mem → Option (Int32 × Mem)) (σ : Mem) : Option (Int32 × Mem) :=
  wt_bnd (f_X4_readStatement F σ) fun r1 s2 =>
  k20 s2
theorem j_X4_terrace_45_e {F : Nat} {k20 : Mem → Option (Int32 × Mem)} {σ : Mem} : j_X4_terrace_45 F k20 σ = (
  wt_bnd (f_X4_readStatement F σ) fun r1 s2 =>
  k20 s2
  ) := rfl
noncomputable def lp_X4_terrace_79 (F : Nat) : Nat → Int32 → Mem → Option (Int32 × Mem) := fun N => Nat.rec (motive := fun _ => Int32 → Mem → Option (Int32 × Mem)) (fun _ _ => none) (fun _ ih x1 σ =>
  if (σ 101 18) ≤ x1 then (
    wt_lt (up2 σ 101 30 (0 : Int32)) fun s3 =>
    some ((s3 101 18), s3)
  ) else (
    wt_bnd (f_X4_comesTold F x1 σ) fun r4 s5 =>
    if r4 = 0 then (
      wt_bnd (f_X4_again F s5) fun r6 s7 =>
      wt_chk x1 49 <|
      some (((-2000 : Int32) - (s7 112 (Int32.toNatClampNeg x1))), s7)
    ) else (
      ih (x1 + (1 : Int32)) s5
    )
  )
  ) N
theorem lp_X4_terrace_79_s {F N : Nat} {x1 : Int32} {σ : Mem} : lp_X4_terrace_79 F (N + 1) x1 σ = (
  if (σ 101 18) ≤ x1 then (
    wt_lt (up2 σ 101 30 (0 : Int32)) fun s3 =>
    some ((s3 101 18), s3)
  ) else (
    wt_bnd (f_X4_comesTold F x1 σ) fun r4 s5 =>
    if r4 = 0 then (
      wt_bnd (f_X4_again F s5) fun r6 s7 =>
      wt_chk x1 49 <|
      some (((-2000 : Int32) - (s7 112 (Int32.toNatClampNeg x1))), s7)
    ) else (
      (lp_X4_terrace_79 F N) (x1 + (1 : Int32)) s5
    )
  )
  ) := rfl
noncomputable def j_X4_terrace_52 (F : Nat) (σ : Mem) : Option (Int32 × Mem) :=
  wt_lt (up2 σ 101 15 (0 : Int32)) fun s9 =>
  if (s9 101 17) = 0 then (
    wt_bnd (f_X4_think F s9) fun r10 s11 =>
    lp_X4_terrace_79 F F (0 : Int32) s11
  ) else (
    some (((-1000 : Int32) - (s9 101 16)), s9)
  )
theorem j_X4_terrace_52_e {F : Nat} {σ : Mem} : j_X4_terrace_52 F σ = (
  wt_lt (up2 σ 101 15 (0 : Int32)) fun s9 =>
  if (s9 101 17) = 0 then (
    wt_bnd (f_X4_think F s9) fun r10 s11 =>
    lp_X4_terrace_79 F F (0 : Int32) s11
  ) else (
    some (((-1000 : Int32) - (s9 101 16)), s9)
  )
  ) := rfl
noncomputable def lp_X4_terrace_20 (F : Nat) : Nat → Mem → Option (Int32 × Mem) := fun N => Nat.rec (motive := fun _ => Mem → Option (Int32 × Mem)) (fun _ => none) (fun _ ih σ =>
  if (σ 101 17) = 0 then (
    if (σ 101 18) = 0 then (
      j_X4_terrace_45 F ih σ
    ) else (
      if (σ 101 15) ≤ (σ 101 16) then (
        j_X4_terrace_52 F σ
      ) else (
        j_X4_terrace_45 F ih σ
      )
    )
  ) else (
    j_X4_terrace_52 F σ
  )
  ) N
theorem lp_X4_terrace_20_s {F N : Nat} {σ : Mem} : lp_X4_terrace_20 F (N + 1) σ = (
  if (σ 101 17) = 0 then (
    if (σ 101 18) = 0 then (
      j_X4_terrace_45 F (lp_X4_terrace_20 F N) σ
    ) else (
      if (σ 101 15) ≤ (σ 101 16) then (
        j_X4_terrace_52 F σ
      ) else (
        j_X4_terrace_45 F (lp_X4_terrace_20 F N) σ
      )
    )
  ) else (
    j_X4_terrace_52 F σ
  )
  ) := rfl
noncomputable def f_X4_terrace (F : Nat) (σ : Mem) : Option (Int32 × Mem) :=
  wt_lt (up2 σ 101 10 (0 : Int32)) fun s12 =>
  wt_lt (up2 s12 101 16 (0 : Int32)) fun s13 =>
  wt_lt (up2 s13 101 17 (0 : Int32)) fun s14 =>
  wt_lt (up2 s14 101 18 (0 : Int32)) fun s15 =>
  lp_X4_terrace_20 F F s15
theorem f_X4_terrace_e {F : Nat} {σ : Mem} : f_X4_terrace F σ = (
  wt_lt (up2 σ 101 10 (0 : Int32)) fun s12 =>
  wt_lt (up2 s12 101 16 (0 : Int32)) fun s13 =>
  wt_lt (up2 s13 101 17 (0 : Int32)) fun s14 =>
  wt_lt (up2 s14 101 18 (0 : Int32)) fun s15 =>
  lp_X4_terrace_20 F F s15
  ) := rfl
noncomputable def f_X4_image (F : Nat) (σ : Mem) : Option (Int32 × Mem) :=
  wt_lt (up2 σ 101 10 (0 : Int32)) fun s1 =>
  wt_lt (up2 s1 101 24 (1 : Int32)) fun s2 =>
  wt_bnd (f_X4_carryAll F 116 (1 : Int32) s2) fun r3 s4 =>
  some ((s4 101 9), s4)
theorem f_X4_image_e {F : Nat} {σ : Mem} : f_X4_image F σ = (
  wt_lt (up2 σ 101 10 (0 : Int32)) fun s1 =>
  wt_lt (up2 s1 101 24 (1 : Int32)) fun s2 =>
  wt_bnd (f_X4_carryAll F 116 (1 : Int32) s2) fun r3 s4 =>
  some ((s4 101 9), s4)
  ) := rfl
noncomputable def f_X4_restore (F : Nat) (σ : Mem) : Option (Int32 × Mem) :=
  wt_lt (up2 σ 101 10 (0 : Int32)) fun s1 =>
  if (s1 101 24) = 0 then (
    wt_bnd (f_X4_refuse F (-3 : Int32) s1) fun r5 s6 =>
    some (r5, s6)
  ) else (
    wt_bnd (f_X4_carryAll F 116 (0 : Int32) s1) fun r2 s3 =>
    wt_lt (up2 s3 101 30 (0 : Int32)) fun s4 =>
    some ((s4 101 9), s4)
  )
theorem f_X4_restore_e {F : Nat} {σ : Mem} : f_X4_restore F σ = (
  wt_lt (up2 σ 101 10 (0 : Int32)) fun s1 =>
  if (s1 101 24) = 0 then (
    wt_bnd (f_X4_refuse F (-3 : Int32) s1) fun r5 s6 =>
    some (r5, s6)
  ) else (
    wt_bnd (f_X4_carryAll F 116 (0 : Int32) s1) fun r2 s3 =>
    wt_lt (up2 s3 101 30 (0 : Int32)) fun s4 =>
    some ((s4 101 9), s4)
  )
  ) := rfl
noncomputable def lp_X4_keepTurn_63 (F : Nat) : Nat → Int32 → Mem → Option (Unit × Mem) := fun N => Nat.rec (motive := fun _ => Int32 → Mem → Option (Unit × Mem)) (fun _ _ => none) (fun _ ih x1 σ =>
  if (188 : Int32) ≤ x1 then (
    wt_lt (up2 σ 101 30 ((σ 101 30) + (1 : Int32))) fun s1 =>
    some ((), s1)
  ) else (
    wt_chk x1 188 <|
    wt_chk (((188 : Int32) * (σ 101 30)) + x1) 1504 <|
    wt_lt (up2 σ 117 (Int32.toNatClampNeg (((188 : Int32) * (σ 101 30)) + x1)) (σ 118 (Int32.toNatClampNeg x1))) fun s4 =>
    ih (x1 + (1 : Int32)) s4
  )
  ) N
theorem lp_X4_keepTurn_63_s {F N : Nat} {x1 : Int32} {σ : Mem} : lp_X4_keepTurn_63 F (N + 1) x1 σ = (
  if (188 : Int32) ≤ x1 then (
    wt_lt (up2 σ 101 30 ((σ 101 30) + (1 : Int32))) fun s1 =>
    some ((), s1)
  ) else (
    wt_chk x1 188 <|
    wt_chk (((188 : Int32) * (σ 101 30)) + x1) 1504 <|
    wt_lt (up2 σ 117 (Int32.toNatClampNeg (((188 : Int32) * (σ 101 30)) + x1)) (σ 118 (Int32.toNatClampNeg x1))) fun s4 =>
    (lp_X4_keepTurn_63 F N) (x1 + (1 : Int32)) s4
  )
  ) := rfl
noncomputable def j_X4_keepTurn_52 (F : Nat) (σ : Mem) : Option (Unit × Mem) :=
  wt_bnd (f_X4_carryAll F 118 (1 : Int32) σ) fun r5 s6 =>
  lp_X4_keepTurn_63 F F (0 : Int32) s6
theorem j_X4_keepTurn_52_e {F : Nat} {σ : Mem} : j_X4_keepTurn_52 F σ = (
  wt_bnd (f_X4_carryAll F 118 (1 : Int32) σ) fun r5 s6 =>
  lp_X4_keepTurn_63 F F (0 : Int32) s6
  ) := rfl
noncomputable def lp_X4_keepTurn_13 (F : Nat) : Nat → Int32 → Mem → Option (Unit × Mem) := fun N => Nat.rec (motive := fun _ => Int32 → Mem → Option (Unit × Mem)) (fun _ _ => none) (fun _ ih x1 σ =>
  if (1504 : Int32) ≤ x1 then (
    wt_lt (up2 σ 101 30 ((σ 101 30) - (1 : Int32))) fun s7 =>
    j_X4_keepTurn_52 F s7
  ) else (
    wt_chk x1 1504 <|
    wt_chk (x1 - (188 : Int32)) 1504 <|
    wt_lt (up2 σ 117 (Int32.toNatClampNeg (x1 - (188 : Int32))) (σ 117 (Int32.toNatClampNeg x1))) fun s10 =>
    ih (x1 + (1 : Int32)) s10
  )
  ) N
theorem lp_X4_keepTurn_13_s {F N : Nat} {x1 : Int32} {σ : Mem} : lp_X4_keepTurn_13 F (N + 1) x1 σ = (
  if (1504 : Int32) ≤ x1 then (
    wt_lt (up2 σ 101 30 ((σ 101 30) - (1 : Int32))) fun s7 =>
    j_X4_keepTurn_52 F s7
  ) else (
    wt_chk x1 1504 <|
    wt_chk (x1 - (188 : Int32)) 1504 <|
    wt_lt (up2 σ 117 (Int32.toNatClampNeg (x1 - (188 : Int32))) (σ 117 (Int32.toNatClampNeg x1))) fun s10 =>
    (lp_X4_keepTurn_13 F N) (x1 + (1 : Int32)) s10
  )
  ) := rfl
noncomputable def f_X4_keepTurn (F : Nat) (σ : Mem) : Option (Unit × Mem) :=
  if (σ 101 30) = (8 : Int32) then (
    lp_X4_keepTurn_13 F F (188 : Int32) σ
  ) else (
    j_X4_keepTurn_52 F σ
  )
theorem f_X4_keepTurn_e {F : Nat} {σ : Mem} : f_X4_keepTurn F σ = (
  if (σ 101 30) = (8 : Int32) then (
    lp_X4_keepTurn_13 F F (188 : Int32) σ
  ) else (
    j_X4_keepTurn_52 F σ
  )
  ) := rfl
noncomputable def lp_X4_back_31 (F : Nat) : Nat → Int32 → Mem → Option (Int32 × Mem) := fun N => Nat.rec (motive := fun _ => Int32 → Mem → Option (Int32 × Mem)) (fun _ _ => none) (fun _ ih x1 σ =>
  if (188 : Int32) ≤ x1 then (
    wt_bnd (f_X4_carryAll F 118 (0 : Int32) σ) fun r1 s2 =>
    some ((s2 101 30), s2)
  ) else (
    wt_chk (((188 : Int32) * (σ 101 30)) + x1) 1504 <|
    wt_chk x1 188 <|
    wt_lt (up2 σ 118 (Int32.toNatClampNeg x1) (σ 117 (Int32.toNatClampNeg (((188 : Int32) * (σ 101 30)) + x1)))) fun s5 =>
    ih (x1 + (1 : Int32)) s5
  )
  ) N
theorem lp_X4_back_31_s {F N : Nat} {x1 : Int32} {σ : Mem} : lp_X4_back_31 F (N + 1) x1 σ = (
  if (188 : Int32) ≤ x1 then (
    wt_bnd (f_X4_carryAll F 118 (0 : Int32) σ) fun r1 s2 =>
    some ((s2 101 30), s2)
  ) else (
    wt_chk (((188 : Int32) * (σ 101 30)) + x1) 1504 <|
    wt_chk x1 188 <|
    wt_lt (up2 σ 118 (Int32.toNatClampNeg x1) (σ 117 (Int32.toNatClampNeg (((188 : Int32) * (σ 101 30)) + x1)))) fun s5 =>
    (lp_X4_back_31 F N) (x1 + (1 : Int32)) s5
  )
  ) := rfl
noncomputable def f_X4_back (F : Nat) (σ : Mem) : Option (Int32 × Mem) :=
  wt_lt (up2 σ 101 10 (0 : Int32)) fun s6 =>
  if (s6 101 30) = 0 then (
    wt_bnd (f_X4_refuse F (-3 : Int32) s6) fun r8 s9 =>
    some (r8, s9)
  ) else (
    wt_lt (up2 s6 101 30 ((s6 101 30) - (1 : Int32))) fun s7 =>
    lp_X4_back_31 F F (0 : Int32) s7
  )
theorem f_X4_back_e {F : Nat} {σ : Mem} : f_X4_back F σ = (
  wt_lt (up2 σ 101 10 (0 : Int32)) fun s6 =>
  if (s6 101 30) = 0 then (
    wt_bnd (f_X4_refuse F (-3 : Int32) s6) fun r8 s9 =>
    some (r8, s9)
  ) else (
    wt_lt (up2 s6 101 30 ((s6 101 30) - (1 : Int32))) fun s7 =>
    lp_X4_back_31 F F (0 : Int32) s7
  )
  ) := rfl
noncomputable def j_X4_paneOf_38 (F : Nat) (t1 : Int32) (σ : Mem) : Option (Int32 × Mem) :=
  wt_bnd (f_X4_refuse F t1 σ) fun r1 s2 =>
  some (r1, s2)
theorem j_X4_paneOf_38_e {F : Nat} {t1 : Int32} {σ : Mem} : j_X4_paneOf_38 F t1 σ = (
  wt_bnd (f_X4_refuse F t1 σ) fun r1 s2 =>
  some (r1, s2)
  ) := rfl
noncomputable def j_X4_paneOf_23 (F : Nat) (x1 : Int32) (σ : Mem) : Option (Int32 × Mem) :=
  wt_bnd (f_X4_isPane F x1 σ) fun r3 s4 =>
  if r3 = 0 then (
    j_X4_paneOf_38 F (-1 : Int32) s4
  ) else (
    j_X4_paneOf_38 F (-2 : Int32) s4
  )
theorem j_X4_paneOf_23_e {F : Nat} {x1 : Int32} {σ : Mem} : j_X4_paneOf_23 F x1 σ = (
  wt_bnd (f_X4_isPane F x1 σ) fun r3 s4 =>
  if r3 = 0 then (
    j_X4_paneOf_38 F (-1 : Int32) s4
  ) else (
    j_X4_paneOf_38 F (-2 : Int32) s4
  )
  ) := rfl
noncomputable def j_X4_paneOf_76 (F : Nat) (k47 : Int32 → Int32 → Mem → Option (Int32 × Mem)) (x1 : Int32) (x2 : Int32) (x4 : Int32) (t0 : Int32) (t1 : Int32) (σ : Mem) : Option (Int32 × Mem) :=
  k47 (t0 + t1) (x4 + (1 : Int32)) σ
theorem j_X4_paneOf_76_e {F : Nat} {k47 : Int32 → Int32 → Mem → Option (Int32 × Mem)} {x1 : Int32} {x2 : Int32} {x4 : Int32} {t0 : Int32} {t1 : Int32} {σ : Mem} : j_X4_paneOf_76 F k47 x1 x2 x4 t0 t1 σ = (
  k47 (t0 + t1) (x4 + (1 : Int32)) σ
  ) := rfl
noncomputable def lp_X4_paneOf_47 (F : Nat) (x1 : Int32) (x2 : Int32) : Nat → Int32 → Int32 → Mem → Option (Int32 × Mem) := fun N => Nat.rec (motive := fun _ => Int32 → Int32 → Mem → Option (Int32 × Mem)) (fun _ _ _ => none) (fun _ ih x3 x4 σ =>
  if ((24 : Int32) * (σ 101 3)) ≤ x4 then (
    if x2 = 0 then (
      wt_chk x1 6 <|
      some ((σ 103 (Int32.toNatClampNeg x1)), σ)
    ) else (
      some (x3, σ)
    )
  ) else (
    wt_chk x4 120 <|
    if (σ 106 (Int32.toNatClampNeg x4)) = x1 then (
      j_X4_paneOf_76 F ih x1 x2 x4 x3 (1 : Int32) σ
    ) else (
      j_X4_paneOf_76 F ih x1 x2 x4 x3 (0 : Int32) σ
    )
  )
  ) N
theorem lp_X4_paneOf_47_s {F N : Nat} {x1 : Int32} {x2 : Int32} {x3 : Int32} {x4 : Int32} {σ : Mem} : lp_X4_paneOf_47 F x1 x2 (N + 1) x3 x4 σ = (
  if ((24 : Int32) * (σ 101 3)) ≤ x4 then (
    if x2 = 0 then (
      wt_chk x1 6 <|
      some ((σ 103 (Int32.toNatClampNeg x1)), σ)
    ) else (
      some (x3, σ)
    )
  ) else (
    wt_chk x4 120 <|
    if (σ 106 (Int32.toNatClampNeg x4)) = x1 then (
      j_X4_paneOf_76 F (lp_X4_paneOf_47 F x1 x2 N) x1 x2 x4 x3 (1 : Int32) σ
    ) else (
      j_X4_paneOf_76 F (lp_X4_paneOf_47 F x1 x2 N) x1 x2 x4 x3 (0 : Int32) σ
    )
  )
  ) := rfl
noncomputable def f_X4_paneOf (F : Nat) (x1 : Int32) (x2 : Int32) (σ : Mem) : Option (Int32 × Mem) :=
  wt_lt (up2 σ 101 10 (0 : Int32)) fun s7 =>
  wt_bnd (f_X4_isPane F x1 s7) fun r8 s9 =>
  if r8 = 0 then (
    j_X4_paneOf_23 F x1 s9
  ) else (
    wt_bnd (f_X4_in F (Int32.toInt64 x2) (0 : Int64) (1 : Int64) s9) fun r10 s11 =>
    if r10 = 0 then (
      j_X4_paneOf_23 F x1 s11
    ) else (
      lp_X4_paneOf_47 F x1 x2 F (0 : Int32) (0 : Int32) s11
    )
  )
theorem f_X4_paneOf_e {F : Nat} {x1 : Int32} {x2 : Int32} {σ : Mem} : f_X4_paneOf F x1 x2 σ = (
  wt_lt (up2 σ 101 10 (0 : Int32)) fun s7 =>
  wt_bnd (f_X4_isPane F x1 s7) fun r8 s9 =>
  if r8 = 0 then (
    j_X4_paneOf_23 F x1 s9
  ) else (
    wt_bnd (f_X4_in F (Int32.toInt64 x2) (0 : Int64) (1 : Int64) s9) fun r10 s11 =>
    if r10 = 0 then (
      j_X4_paneOf_23 F x1 s11
    ) else (
      lp_X4_paneOf_47 F x1 x2 F (0 : Int32) (0 : Int32) s11
    )
  )
  ) := rfl
noncomputable def j_X4_lookerOf_40 (F : Nat) (t1 : Int32) (σ : Mem) : Option (Int32 × Mem) :=
  wt_bnd (f_X4_refuse F t1 σ) fun r1 s2 =>
  some (r1, s2)
theorem j_X4_lookerOf_40_e {F : Nat} {t1 : Int32} {σ : Mem} : j_X4_lookerOf_40 F t1 σ = (
  wt_bnd (f_X4_refuse F t1 σ) fun r1 s2 =>
  some (r1, s2)
  ) := rfl
noncomputable def j_X4_lookerOf_25 (F : Nat) (x1 : Int32) (σ : Mem) : Option (Int32 × Mem) :=
  wt_bnd (f_X4_isLooker F x1 σ) fun r3 s4 =>
  if r3 = 0 then (
    j_X4_lookerOf_40 F (-1 : Int32) s4
  ) else (
    j_X4_lookerOf_40 F (-2 : Int32) s4
  )
theorem j_X4_lookerOf_25_e {F : Nat} {x1 : Int32} {σ : Mem} : j_X4_lookerOf_25 F x1 σ = (
  wt_bnd (f_X4_isLooker F x1 σ) fun r3 s4 =>
  if r3 = 0 then (
    j_X4_lookerOf_40 F (-1 : Int32) s4
  ) else (
    j_X4_lookerOf_40 F (-2 : Int32) s4
  )
  ) := rfl
noncomputable def f_X4_lookerOf (F : Nat) (x1 : Int32) (x2 : Int32) (σ : Mem) : Option (Int32 × Mem) :=
  wt_lt (up2 σ 101 10 (0 : Int32)) fun s5 =>
  wt_bnd (f_X4_isLooker F x1 s5) fun r6 s7 =>
  if r6 = 0 then (
    j_X4_lookerOf_25 F x1 s7
  ) else (
    wt_bnd (f_X4_in F (Int32.toInt64 x2) (0 : Int64) (3 : Int64) s7) fun r8 s9 =>
    if r8 = 0 then (
      j_X4_lookerOf_25 F x1 s9
    ) else (
      wt_bnd (f_X4_layBrings F s9) fun r10 s11 =>
      if x2 = 0 then (
        wt_chk x1 5 <|
        some ((s11 104 (Int32.toNatClampNeg x1)), s11)
      ) else (
        if x2 = (1 : Int32) then (
          wt_chk x1 5 <|
          some ((s11 105 (Int32.toNatClampNeg x1)), s11)
        ) else (
          if x2 = (2 : Int32) then (
            wt_bnd (f_X4_hoursOf F x1 s11) fun r14 s15 =>
            some (r14, s15)
          ) else (
            wt_bnd (f_X4_viewsIn F x1 (0 : Int32) s11) fun r12 s13 =>
            some (r12, s13)
          )
        )
      )
    )
  )
theorem f_X4_lookerOf_e {F : Nat} {x1 : Int32} {x2 : Int32} {σ : Mem} : f_X4_lookerOf F x1 x2 σ = (
  wt_lt (up2 σ 101 10 (0 : Int32)) fun s5 =>
  wt_bnd (f_X4_isLooker F x1 s5) fun r6 s7 =>
  if r6 = 0 then (
    j_X4_lookerOf_25 F x1 s7
  ) else (
    wt_bnd (f_X4_in F (Int32.toInt64 x2) (0 : Int64) (3 : Int64) s7) fun r8 s9 =>
    if r8 = 0 then (
      j_X4_lookerOf_25 F x1 s9
    ) else (
      wt_bnd (f_X4_layBrings F s9) fun r10 s11 =>
      if x2 = 0 then (
        wt_chk x1 5 <|
        some ((s11 104 (Int32.toNatClampNeg x1)), s11)
      ) else (
        if x2 = (1 : Int32) then (
          wt_chk x1 5 <|
          some ((s11 105 (Int32.toNatClampNeg x1)), s11)
        ) else (
          if x2 = (2 : Int32) then (
            wt_bnd (f_X4_hoursOf F x1 s11) fun r14 s15 =>
            some (r14, s15)
          ) else (
            wt_bnd (f_X4_viewsIn F x1 (0 : Int32) s11) fun r12 s13 =>
            some (r12, s13)
          )
        )
      )
    )
  )
  ) := rfl
noncomputable def j_X4_pane_33 (F : Nat) (x1 : Int32) (t0 : Int32) (σ : Mem) : Option (Int32 × Mem) :=
  if 0 ≤ t0 then (
    wt_chk (σ 101 1) 6 <|
    wt_lt (up2 σ 103 (Int32.toNatClampNeg (σ 101 1)) x1) fun s2 =>
    wt_lt (up2 s2 101 1 ((s2 101 1) + (1 : Int32))) fun s3 =>
    wt_lt (up2 s3 101 30 (0 : Int32)) fun s4 =>
    some (((s4 101 1) - (1 : Int32)), s4)
  ) else (
    wt_bnd (f_X4_refuse F t0 σ) fun r5 s6 =>
    some (r5, s6)
  )
theorem j_X4_pane_33_e {F : Nat} {x1 : Int32} {t0 : Int32} {σ : Mem} : j_X4_pane_33 F x1 t0 σ = (
  if 0 ≤ t0 then (
    wt_chk (σ 101 1) 6 <|
    wt_lt (up2 σ 103 (Int32.toNatClampNeg (σ 101 1)) x1) fun s2 =>
    wt_lt (up2 s2 101 1 ((s2 101 1) + (1 : Int32))) fun s3 =>
    wt_lt (up2 s3 101 30 (0 : Int32)) fun s4 =>
    some (((s4 101 1) - (1 : Int32)), s4)
  ) else (
    wt_bnd (f_X4_refuse F t0 σ) fun r5 s6 =>
    some (r5, s6)
  )
  ) := rfl
noncomputable def j_X4_pane_32 (F : Nat) (x1 : Int32) (x2 : Int32) (σ : Mem) : Option (Int32 × Mem) :=
  j_X4_pane_33 F x1 x2 σ
theorem j_X4_pane_32_e {F : Nat} {x1 : Int32} {x2 : Int32} {σ : Mem} : j_X4_pane_32 F x1 x2 σ = (
  j_X4_pane_33 F x1 x2 σ
  ) := rfl
noncomputable def f_X4_pane (F : Nat) (x1 : Int32) (σ : Mem) : Option (Int32 × Mem) :=
  wt_lt (up2 σ 101 10 (0 : Int32)) fun s7 =>
  wt_bnd (f_X4_wrongNumber F x1 (0 : Int32) (255 : Int32) s7) fun r8 s9 =>
  if r8 = 0 then (
    if (s9 101 1) = (6 : Int32) then (
      j_X4_pane_33 F x1 (-6 : Int32) s9
    ) else (
      j_X4_pane_32 F x1 r8 s9
    )
  ) else (
    j_X4_pane_32 F x1 r8 s9
  )
theorem f_X4_pane_e {F : Nat} {x1 : Int32} {σ : Mem} : f_X4_pane F x1 σ = (
  wt_lt (up2 σ 101 10 (0 : Int32)) fun s7 =>
  wt_bnd (f_X4_wrongNumber F x1 (0 : Int32) (255 : Int32) s7) fun r8 s9 =>
  if r8 = 0 then (
    if (s9 101 1) = (6 : Int32) then (
      j_X4_pane_33 F x1 (-6 : Int32) s9
    ) else (
      j_X4_pane_32 F x1 r8 s9
    )
  ) else (
    j_X4_pane_32 F x1 r8 s9
  )
  ) := rfl
noncomputable def j_X4_looker_48 (F : Nat) (x1 : Int32) (x2 : Int32) (t0 : Int32) (σ : Mem) : Option (Int32 × Mem) :=
  if 0 ≤ t0 then (
    wt_bnd (f_X4_lookerComes F x1 x2 σ) fun r1 s2 =>
    wt_lt (up2 s2 101 30 (0 : Int32)) fun s3 =>
    some (((s3 101 3) - (1 : Int32)), s3)
  ) else (
    wt_bnd (f_X4_refuse F t0 σ) fun r4 s5 =>
    some (r4, s5)
  )
theorem j_X4_looker_48_e {F : Nat} {x1 : Int32} {x2 : Int32} {t0 : Int32} {σ : Mem} : j_X4_looker_48 F x1 x2 t0 σ = (
  if 0 ≤ t0 then (
    wt_bnd (f_X4_lookerComes F x1 x2 σ) fun r1 s2 =>
    wt_lt (up2 s2 101 30 (0 : Int32)) fun s3 =>
    some (((s3 101 3) - (1 : Int32)), s3)
  ) else (
    wt_bnd (f_X4_refuse F t0 σ) fun r4 s5 =>
    some (r4, s5)
  )
  ) := rfl
noncomputable def j_X4_looker_47 (F : Nat) (x1 : Int32) (x2 : Int32) (x3 : Int32) (σ : Mem) : Option (Int32 × Mem) :=
  j_X4_looker_48 F x1 x2 x3 σ
theorem j_X4_looker_47_e {F : Nat} {x1 : Int32} {x2 : Int32} {x3 : Int32} {σ : Mem} : j_X4_looker_47 F x1 x2 x3 σ = (
  j_X4_looker_48 F x1 x2 x3 σ
  ) := rfl
noncomputable def j_X4_looker_29 (F : Nat) (x1 : Int32) (x2 : Int32) (t0 : Int32) (σ : Mem) : Option (Int32 × Mem) :=
  if t0 = 0 then (
    if (σ 101 3) = (5 : Int32) then (
      j_X4_looker_48 F x1 x2 (-6 : Int32) σ
    ) else (
      j_X4_looker_47 F x1 x2 t0 σ
    )
  ) else (
    j_X4_looker_47 F x1 x2 t0 σ
  )
theorem j_X4_looker_29_e {F : Nat} {x1 : Int32} {x2 : Int32} {t0 : Int32} {σ : Mem} : j_X4_looker_29 F x1 x2 t0 σ = (
  if t0 = 0 then (
    if (σ 101 3) = (5 : Int32) then (
      j_X4_looker_48 F x1 x2 (-6 : Int32) σ
    ) else (
      j_X4_looker_47 F x1 x2 t0 σ
    )
  ) else (
    j_X4_looker_47 F x1 x2 t0 σ
  )
  ) := rfl
noncomputable def f_X4_looker (F : Nat) (x1 : Int32) (x2 : Int32) (σ : Mem) : Option (Int32 × Mem) :=
  wt_lt (up2 σ 101 10 (0 : Int32)) fun s6 =>
  wt_bnd (f_X4_in F (Int32.toInt64 x1) (0 : Int64) (5 : Int64) s6) fun r7 s8 =>
  if r7 = 0 then (
    j_X4_looker_29 F x1 x2 (-2 : Int32) s8
  ) else (
    wt_bnd (f_X4_wrongNumber F x2 (0 : Int32) (9 : Int32) s8) fun r9 s10 =>
    j_X4_looker_29 F x1 x2 r9 s10
  )
theorem f_X4_looker_e {F : Nat} {x1 : Int32} {x2 : Int32} {σ : Mem} : f_X4_looker F x1 x2 σ = (
  wt_lt (up2 σ 101 10 (0 : Int32)) fun s6 =>
  wt_bnd (f_X4_in F (Int32.toInt64 x1) (0 : Int64) (5 : Int64) s6) fun r7 s8 =>
  if r7 = 0 then (
    j_X4_looker_29 F x1 x2 (-2 : Int32) s8
  ) else (
    wt_bnd (f_X4_wrongNumber F x2 (0 : Int32) (9 : Int32) s8) fun r9 s10 =>
    j_X4_looker_29 F x1 x2 r9 s10
  )
  ) := rfl
noncomputable def j_X4_stands_58 (F : Nat) (x1 : Int32) (x2 : Int32) (x3 : Int32) (x4 : Int32) (t0 : Int32) (σ : Mem) : Option (Int32 × Mem) :=
  if 0 ≤ t0 then (
    wt_bnd (f_X4_keepTurn F σ) fun r1 s2 =>
    wt_bnd (f_X4_stand F x1 x2 x3 x4 s2) fun r3 s4 =>
    wt_bnd (f_X4_hoursOf F x1 s4) fun r5 s6 =>
    some (r5, s6)
  ) else (
    wt_bnd (f_X4_refuse F t0 σ) fun r7 s8 =>
    some (r7, s8)
  )
theorem j_X4_stands_58_e {F : Nat} {x1 : Int32} {x2 : Int32} {x3 : Int32} {x4 : Int32} {t0 : Int32} {σ : Mem} : j_X4_stands_58 F x1 x2 x3 x4 t0 σ = (
  if 0 ≤ t0 then (
    wt_bnd (f_X4_keepTurn F σ) fun r1 s2 =>
    wt_bnd (f_X4_stand F x1 x2 x3 x4 s2) fun r3 s4 =>
    wt_bnd (f_X4_hoursOf F x1 s4) fun r5 s6 =>
    some (r5, s6)
  ) else (
    wt_bnd (f_X4_refuse F t0 σ) fun r7 s8 =>
    some (r7, s8)
  )
  ) := rfl
noncomputable def j_X4_stands_43 (F : Nat) (x1 : Int32) (x2 : Int32) (x3 : Int32) (x4 : Int32) (σ : Mem) : Option (Int32 × Mem) :=
  if x2 ≤ x3 then (
    j_X4_stands_58 F x1 x2 x3 x4 (0 : Int32) σ
  ) else (
    j_X4_stands_58 F x1 x2 x3 x4 (-3 : Int32) σ
  )
theorem j_X4_stands_43_e {F : Nat} {x1 : Int32} {x2 : Int32} {x3 : Int32} {x4 : Int32} {σ : Mem} : j_X4_stands_43 F x1 x2 x3 x4 σ = (
  if x2 ≤ x3 then (
    j_X4_stands_58 F x1 x2 x3 x4 (0 : Int32) σ
  ) else (
    j_X4_stands_58 F x1 x2 x3 x4 (-3 : Int32) σ
  )
  ) := rfl
noncomputable def j_X4_stands_57 (F : Nat) (x1 : Int32) (x2 : Int32) (x3 : Int32) (x4 : Int32) (σ : Mem) : Option (Int32 × Mem) :=
  j_X4_stands_58 F x1 x2 x3 x4 (-1 : Int32) σ
theorem j_X4_stands_57_e {F : Nat} {x1 : Int32} {x2 : Int32} {x3 : Int32} {x4 : Int32} {σ : Mem} : j_X4_stands_57 F x1 x2 x3 x4 σ = (
  j_X4_stands_58 F x1 x2 x3 x4 (-1 : Int32) σ
  ) := rfl
noncomputable def f_X4_stands (F : Nat) (x1 : Int32) (x2 : Int32) (x3 : Int32) (x4 : Int32) (σ : Mem) : Option (Int32 × Mem) :=
  wt_lt (up2 σ 101 10 (0 : Int32)) fun s9 =>
  wt_bnd (f_X4_isLooker F x1 s9) fun r10 s11 =>
  if r10 = 0 then (
    j_X4_stands_57 F x1 x2 x3 x4 s11
  ) else (
    wt_bnd (f_X4_isHour F x2 s11) fun r12 s13 =>
    if r12 = 0 then (
      j_X4_stands_57 F x1 x2 x3 x4 s13
    ) else (
      wt_bnd (f_X4_isHour F x3 s13) fun r14 s15 =>
      if r14 = 0 then (
        j_X4_stands_57 F x1 x2 x3 x4 s15
      ) else (
        if x4 = (9 : Int32) then (
          j_X4_stands_43 F x1 x2 x3 x4 s15
        ) else (
          wt_bnd (f_X4_isPane F x4 s15) fun r16 s17 =>
          if r16 = 0 then (
            j_X4_stands_57 F x1 x2 x3 x4 s17
          ) else (
            j_X4_stands_43 F x1 x2 x3 x4 s17
          )
        )
      )
    )
  )
theorem f_X4_stands_e {F : Nat} {x1 : Int32} {x2 : Int32} {x3 : Int32} {x4 : Int32} {σ : Mem} : f_X4_stands F x1 x2 x3 x4 σ = (
  wt_lt (up2 σ 101 10 (0 : Int32)) fun s9 =>
  wt_bnd (f_X4_isLooker F x1 s9) fun r10 s11 =>
  if r10 = 0 then (
    j_X4_stands_57 F x1 x2 x3 x4 s11
  ) else (
    wt_bnd (f_X4_isHour F x2 s11) fun r12 s13 =>
    if r12 = 0 then (
      j_X4_stands_57 F x1 x2 x3 x4 s13
    ) else (
      wt_bnd (f_X4_isHour F x3 s13) fun r14 s15 =>
      if r14 = 0 then (
        j_X4_stands_57 F x1 x2 x3 x4 s15
      ) else (
        if x4 = (9 : Int32) then (
          j_X4_stands_43 F x1 x2 x3 x4 s15
        ) else (
          wt_bnd (f_X4_isPane F x4 s15) fun r16 s17 =>
          if r16 = 0 then (
            j_X4_stands_57 F x1 x2 x3 x4 s17
          ) else (
            j_X4_stands_43 F x1 x2 x3 x4 s17
          )
        )
      )
    )
  )
  ) := rfl
noncomputable def j_X4_roster_34 (F : Nat) (σ : Mem) : Option (Int32 × Mem) :=
  wt_bnd (f_X4_refuse F (-1 : Int32) σ) fun r1 s2 =>
  some (r1, s2)
theorem j_X4_roster_34_e {F : Nat} {σ : Mem} : j_X4_roster_34 F σ = (
  wt_bnd (f_X4_refuse F (-1 : Int32) σ) fun r1 s2 =>
  some (r1, s2)
  ) := rfl
noncomputable def f_X4_roster (F : Nat) (x1 : Int32) (x2 : Int32) (σ : Mem) : Option (Int32 × Mem) :=
  wt_lt (up2 σ 101 10 (0 : Int32)) fun s3 =>
  wt_bnd (f_X4_isLooker F x1 s3) fun r4 s5 =>
  if r4 = 0 then (
    j_X4_roster_34 F s5
  ) else (
    wt_bnd (f_X4_isHour F x2 s5) fun r6 s7 =>
    if r6 = 0 then (
      j_X4_roster_34 F s7
    ) else (
      wt_chk (((24 : Int32) * x1) + x2) 120 <|
      some ((s7 106 (Int32.toNatClampNeg (((24 : Int32) * x1) + x2))), s7)
    )
  )
theorem f_X4_roster_e {F : Nat} {x1 : Int32} {x2 : Int32} {σ : Mem} : f_X4_roster F x1 x2 σ = (
  wt_lt (up2 σ 101 10 (0 : Int32)) fun s3 =>
  wt_bnd (f_X4_isLooker F x1 s3) fun r4 s5 =>
  if r4 = 0 then (
    j_X4_roster_34 F s5
  ) else (
    wt_bnd (f_X4_isHour F x2 s5) fun r6 s7 =>
    if r6 = 0 then (
      j_X4_roster_34 F s7
    ) else (
      wt_chk (((24 : Int32) * x1) + x2) 120 <|
      some ((s7 106 (Int32.toNatClampNeg (((24 : Int32) * x1) + x2))), s7)
    )
  )
  ) := rfl
noncomputable def j_X4_wall_20 (F : Nat) (σ : Mem) : Option (Int32 × Mem) :=
  wt_bnd (f_X4_refuse F (-1 : Int32) σ) fun r1 s2 =>
  some (r1, s2)
theorem j_X4_wall_20_e {F : Nat} {σ : Mem} : j_X4_wall_20 F σ = (
  wt_bnd (f_X4_refuse F (-1 : Int32) σ) fun r1 s2 =>
  some (r1, s2)
  ) := rfl
noncomputable def f_X4_wall (F : Nat) (x1 : Int32) (x2 : Int32) (σ : Mem) : Option (Int32 × Mem) :=
  wt_lt (up2 σ 101 10 (0 : Int32)) fun s3 =>
  wt_bnd (f_X4_isPane F x1 s3) fun r4 s5 =>
  if r4 = 0 then (
    j_X4_wall_20 F s5
  ) else (
    wt_bnd (f_X4_isView F x2 s5) fun r6 s7 =>
    if r6 = 0 then (
      j_X4_wall_20 F s7
    ) else (
      wt_bnd (f_X4_keepTurn F s7) fun r8 s9 =>
      wt_chk x1 6 <|
      wt_lt (up2 s9 103 (Int32.toNatClampNeg x1) ((s9 103 (Int32.toNatClampNeg x1)) ^^^ ((1 : Int32) <<< (x2 &&& 31)))) fun s11 =>
      some ((((s11 103 (Int32.toNatClampNeg x1)) >>> (x2 &&& 31)) &&& (1 : Int32)), s11)
    )
  )
theorem f_X4_wall_e {F : Nat} {x1 : Int32} {x2 : Int32} {σ : Mem} : f_X4_wall F x1 x2 σ = (
  wt_lt (up2 σ 101 10 (0 : Int32)) fun s3 =>
  wt_bnd (f_X4_isPane F x1 s3) fun r4 s5 =>
  if r4 = 0 then (
    j_X4_wall_20 F s5
  ) else (
    wt_bnd (f_X4_isView F x2 s5) fun r6 s7 =>
    if r6 = 0 then (
      j_X4_wall_20 F s7
    ) else (
      wt_bnd (f_X4_keepTurn F s7) fun r8 s9 =>
      wt_chk x1 6 <|
      wt_lt (up2 s9 103 (Int32.toNatClampNeg x1) ((s9 103 (Int32.toNatClampNeg x1)) ^^^ ((1 : Int32) <<< (x2 &&& 31)))) fun s11 =>
      some ((((s11 103 (Int32.toNatClampNeg x1)) >>> (x2 &&& 31)) &&& (1 : Int32)), s11)
    )
  )
  ) := rfl
noncomputable def j_X4_worth_23 (F : Nat) (x1 : Int32) (x2 : Int32) (t0 : Int32) (σ : Mem) : Option (Int32 × Mem) :=
  if 0 ≤ t0 then (
    wt_bnd (f_X4_keepTurn F σ) fun r1 s2 =>
    wt_chk x1 8 <|
    wt_lt (s2 102 (Int32.toNatClampNeg x1)) fun z4 =>
    wt_lt (up2 s2 102 (Int32.toNatClampNeg x1) x2) fun s5 =>
    some (z4, s5)
  ) else (
    wt_bnd (f_X4_refuse F t0 σ) fun r6 s7 =>
    some (r6, s7)
  )
theorem j_X4_worth_23_e {F : Nat} {x1 : Int32} {x2 : Int32} {t0 : Int32} {σ : Mem} : j_X4_worth_23 F x1 x2 t0 σ = (
  if 0 ≤ t0 then (
    wt_bnd (f_X4_keepTurn F σ) fun r1 s2 =>
    wt_chk x1 8 <|
    wt_lt (s2 102 (Int32.toNatClampNeg x1)) fun z4 =>
    wt_lt (up2 s2 102 (Int32.toNatClampNeg x1) x2) fun s5 =>
    some (z4, s5)
  ) else (
    wt_bnd (f_X4_refuse F t0 σ) fun r6 s7 =>
    some (r6, s7)
  )
  ) := rfl
noncomputable def f_X4_worth (F : Nat) (x1 : Int32) (x2 : Int32) (σ : Mem) : Option (Int32 × Mem) :=
  wt_lt (up2 σ 101 10 (0 : Int32)) fun s8 =>
  wt_bnd (f_X4_isView F x1 s8) fun r9 s10 =>
  if r9 = 0 then (
    j_X4_worth_23 F x1 x2 (-1 : Int32) s10
  ) else (
    wt_bnd (f_X4_wrongNumber F x2 (0 : Int32) (9 : Int32) s10) fun r11 s12 =>
    j_X4_worth_23 F x1 x2 r11 s12
  )
theorem f_X4_worth_e {F : Nat} {x1 : Int32} {x2 : Int32} {σ : Mem} : f_X4_worth F x1 x2 σ = (
  wt_lt (up2 σ 101 10 (0 : Int32)) fun s8 =>
  wt_bnd (f_X4_isView F x1 s8) fun r9 s10 =>
  if r9 = 0 then (
    j_X4_worth_23 F x1 x2 (-1 : Int32) s10
  ) else (
    wt_bnd (f_X4_wrongNumber F x2 (0 : Int32) (9 : Int32) s10) fun r11 s12 =>
    j_X4_worth_23 F x1 x2 r11 s12
  )
  ) := rfl
noncomputable def f_X4_law (F : Nat) (x1 : Int32) (σ : Mem) : Option (Int32 × Mem) :=
  wt_lt (up2 σ 101 10 (0 : Int32)) fun s1 =>
  wt_bnd (f_X4_in F (Int32.toInt64 x1) (0 : Int64) (2 : Int64) s1) fun r2 s3 =>
  if r2 = 0 then (
    wt_bnd (f_X4_refuse F (-2 : Int32) s3) fun r7 s8 =>
    some (r7, s8)
  ) else (
    wt_bnd (f_X4_keepTurn F s3) fun r4 s5 =>
    wt_lt (up2 s5 101 8 x1) fun s6 =>
    some ((s5 101 8), s6)
  )
theorem f_X4_law_e {F : Nat} {x1 : Int32} {σ : Mem} : f_X4_law F x1 σ = (
  wt_lt (up2 σ 101 10 (0 : Int32)) fun s1 =>
  wt_bnd (f_X4_in F (Int32.toInt64 x1) (0 : Int64) (2 : Int64) s1) fun r2 s3 =>
  if r2 = 0 then (
    wt_bnd (f_X4_refuse F (-2 : Int32) s3) fun r7 s8 =>
    some (r7, s8)
  ) else (
    wt_bnd (f_X4_keepTurn F s3) fun r4 s5 =>
    wt_lt (up2 s5 101 8 x1) fun s6 =>
    some ((s5 101 8), s6)
  )
  ) := rfl
noncomputable def j_X4_days_35 (F : Nat) (x1 : Int32) (t0 : Int32) (σ : Mem) : Option (Int32 × Mem) :=
  if 0 ≤ t0 then (
    wt_bnd (f_X4_goDays F x1 σ) fun r1 s2 =>
    wt_lt (up2 s2 101 30 (0 : Int32)) fun s3 =>
    wt_bnd (f_X4_owned F s3) fun r4 s5 =>
    some (r4, s5)
  ) else (
    wt_bnd (f_X4_refuse F t0 σ) fun r6 s7 =>
    some (r6, s7)
  )
theorem j_X4_days_35_e {F : Nat} {x1 : Int32} {t0 : Int32} {σ : Mem} : j_X4_days_35 F x1 t0 σ = (
  if 0 ≤ t0 then (
    wt_bnd (f_X4_goDays F x1 σ) fun r1 s2 =>
    wt_lt (up2 s2 101 30 (0 : Int32)) fun s3 =>
    wt_bnd (f_X4_owned F s3) fun r4 s5 =>
    some (r4, s5)
  ) else (
    wt_bnd (f_X4_refuse F t0 σ) fun r6 s7 =>
    some (r6, s7)
  )
  ) := rfl
noncomputable def j_X4_days_34 (F : Nat) (x1 : Int32) (x2 : Int32) (σ : Mem) : Option (Int32 × Mem) :=
  j_X4_days_35 F x1 x2 σ
theorem j_X4_days_34_e {F : Nat} {x1 : Int32} {x2 : Int32} {σ : Mem} : j_X4_days_34 F x1 x2 σ = (
  j_X4_days_35 F x1 x2 σ
  ) := rfl
noncomputable def f_X4_days (F : Nat) (x1 : Int32) (σ : Mem) : Option (Int32 × Mem) :=
  wt_lt (up2 σ 101 10 (0 : Int32)) fun s8 =>
  wt_bnd (f_X4_wrongNumber F x1 (1 : Int32) (99 : Int32) s8) fun r9 s10 =>
  if r9 = 0 then (
    if ((s10 101 9) + x1) ≤ (9999 : Int32) then (
      j_X4_days_34 F x1 r9 s10
    ) else (
      j_X4_days_35 F x1 (-6 : Int32) s10
    )
  ) else (
    j_X4_days_34 F x1 r9 s10
  )
theorem f_X4_days_e {F : Nat} {x1 : Int32} {σ : Mem} : f_X4_days F x1 σ = (
  wt_lt (up2 σ 101 10 (0 : Int32)) fun s8 =>
  wt_bnd (f_X4_wrongNumber F x1 (1 : Int32) (99 : Int32) s8) fun r9 s10 =>
  if r9 = 0 then (
    if ((s10 101 9) + x1) ≤ (9999 : Int32) then (
      j_X4_days_34 F x1 r9 s10
    ) else (
      j_X4_days_35 F x1 (-6 : Int32) s10
    )
  ) else (
    j_X4_days_34 F x1 r9 s10
  )
  ) := rfl
noncomputable def j_X4_counts_30 (F : Nat) (x1 : Int32) (x2 : Int32) (x3 : Int32) (t0 : Int32) (σ : Mem) : Option (Int32 × Mem) :=
  if 0 ≤ t0 then (
    if x3 = 0 then (
      wt_chk (((8 : Int32) * x1) + x2) 40 <|
      some ((σ 107 (Int32.toNatClampNeg (((8 : Int32) * x1) + x2))), σ)
    ) else (
      wt_bnd (f_X4_bringsOf F x1 x2 σ) fun r1 s2 =>
      some (r1, s2)
    )
  ) else (
    wt_bnd (f_X4_refuse F t0 σ) fun r4 s5 =>
    some (r4, s5)
  )
theorem j_X4_counts_30_e {F : Nat} {x1 : Int32} {x2 : Int32} {x3 : Int32} {t0 : Int32} {σ : Mem} : j_X4_counts_30 F x1 x2 x3 t0 σ = (
  if 0 ≤ t0 then (
    if x3 = 0 then (
      wt_chk (((8 : Int32) * x1) + x2) 40 <|
      some ((σ 107 (Int32.toNatClampNeg (((8 : Int32) * x1) + x2))), σ)
    ) else (
      wt_bnd (f_X4_bringsOf F x1 x2 σ) fun r1 s2 =>
      some (r1, s2)
    )
  ) else (
    wt_bnd (f_X4_refuse F t0 σ) fun r4 s5 =>
    some (r4, s5)
  )
  ) := rfl
noncomputable def j_X4_counts_29 (F : Nat) (x1 : Int32) (x2 : Int32) (x3 : Int32) (σ : Mem) : Option (Int32 × Mem) :=
  j_X4_counts_30 F x1 x2 x3 (-1 : Int32) σ
theorem j_X4_counts_29_e {F : Nat} {x1 : Int32} {x2 : Int32} {x3 : Int32} {σ : Mem} : j_X4_counts_29 F x1 x2 x3 σ = (
  j_X4_counts_30 F x1 x2 x3 (-1 : Int32) σ
  ) := rfl
noncomputable def f_X4_counts (F : Nat) (x1 : Int32) (x2 : Int32) (x3 : Int32) (σ : Mem) : Option (Int32 × Mem) :=
  wt_lt (up2 σ 101 10 (0 : Int32)) fun s6 =>
  wt_bnd (f_X4_isLooker F x1 s6) fun r7 s8 =>
  if r7 = 0 then (
    j_X4_counts_29 F x1 x2 x3 s8
  ) else (
    wt_bnd (f_X4_isView F x2 s8) fun r9 s10 =>
    if r9 = 0 then (
      j_X4_counts_29 F x1 x2 x3 s10
    ) else (
      wt_bnd (f_X4_wrongBit F (0 : Int32) x3 (1 : Int32) s10) fun r11 s12 =>
      j_X4_counts_30 F x1 x2 x3 r11 s12
    )
  )
theorem f_X4_counts_e {F : Nat} {x1 : Int32} {x2 : Int32} {x3 : Int32} {σ : Mem} : f_X4_counts F x1 x2 x3 σ = (
  wt_lt (up2 σ 101 10 (0 : Int32)) fun s6 =>
  wt_bnd (f_X4_isLooker F x1 s6) fun r7 s8 =>
  if r7 = 0 then (
    j_X4_counts_29 F x1 x2 x3 s8
  ) else (
    wt_bnd (f_X4_isView F x2 s8) fun r9 s10 =>
    if r9 = 0 then (
      j_X4_counts_29 F x1 x2 x3 s10
    ) else (
      wt_bnd (f_X4_wrongBit F (0 : Int32) x3 (1 : Int32) s10) fun r11 s12 =>
      j_X4_counts_30 F x1 x2 x3 r11 s12
    )
  )
  ) := rfl
noncomputable def j_X4_owner_24 (F : Nat) (x1 : Int32) (x2 : Int32) (t0 : Int32) (σ : Mem) : Option (Int32 × Mem) :=
  if 0 ≤ t0 then (
    wt_bnd (f_X4_layBrings F σ) fun r1 s2 =>
    wt_bnd (f_X4_ownerIn F x1 x2 s2) fun r3 s4 =>
    some (r3, s4)
  ) else (
    wt_bnd (f_X4_refuse F t0 σ) fun r5 s6 =>
    some (r5, s6)
  )
theorem j_X4_owner_24_e {F : Nat} {x1 : Int32} {x2 : Int32} {t0 : Int32} {σ : Mem} : j_X4_owner_24 F x1 x2 t0 σ = (
  if 0 ≤ t0 then (
    wt_bnd (f_X4_layBrings F σ) fun r1 s2 =>
    wt_bnd (f_X4_ownerIn F x1 x2 s2) fun r3 s4 =>
    some (r3, s4)
  ) else (
    wt_bnd (f_X4_refuse F t0 σ) fun r5 s6 =>
    some (r5, s6)
  )
  ) := rfl
noncomputable def f_X4_owner (F : Nat) (x1 : Int32) (x2 : Int32) (σ : Mem) : Option (Int32 × Mem) :=
  wt_lt (up2 σ 101 10 (0 : Int32)) fun s7 =>
  wt_bnd (f_X4_isView F x1 s7) fun r8 s9 =>
  if r8 = 0 then (
    j_X4_owner_24 F x1 x2 (-1 : Int32) s9
  ) else (
    wt_bnd (f_X4_wrongNumber F x2 (0 : Int32) (999 : Int32) s9) fun r10 s11 =>
    j_X4_owner_24 F x1 x2 r10 s11
  )
theorem f_X4_owner_e {F : Nat} {x1 : Int32} {x2 : Int32} {σ : Mem} : f_X4_owner F x1 x2 σ = (
  wt_lt (up2 σ 101 10 (0 : Int32)) fun s7 =>
  wt_bnd (f_X4_isView F x1 s7) fun r8 s9 =>
  if r8 = 0 then (
    j_X4_owner_24 F x1 x2 (-1 : Int32) s9
  ) else (
    wt_bnd (f_X4_wrongNumber F x2 (0 : Int32) (999 : Int32) s9) fun r10 s11 =>
    j_X4_owner_24 F x1 x2 r10 s11
  )
  ) := rfl
noncomputable def j_X4_owns_25 (F : Nat) (x1 : Int32) (x2 : Int32) (x3 : Int32) (t0 : Int32) (σ : Mem) : Option (Int32 × Mem) :=
  wt_bnd (f_X4_wrongBit F t0 x3 (1 : Int32) σ) fun r1 s2 =>
  if 0 ≤ r1 then (
    wt_bnd (f_X4_layBrings F s2) fun r3 s4 =>
    if x3 = 0 then (
      wt_bnd (f_X4_viewsIn F x1 x2 s4) fun r7 s8 =>
      some (r7, s8)
    ) else (
      wt_bnd (f_X4_worthIn F x1 x2 s4) fun r5 s6 =>
      some (r5, s6)
    )
  ) else (
    wt_bnd (f_X4_refuse F r1 s2) fun r9 s10 =>
    some (r9, s10)
  )
theorem j_X4_owns_25_e {F : Nat} {x1 : Int32} {x2 : Int32} {x3 : Int32} {t0 : Int32} {σ : Mem} : j_X4_owns_25 F x1 x2 x3 t0 σ = (
  wt_bnd (f_X4_wrongBit F t0 x3 (1 : Int32) σ) fun r1 s2 =>
  if 0 ≤ r1 then (
    wt_bnd (f_X4_layBrings F s2) fun r3 s4 =>
    if x3 = 0 then (
      wt_bnd (f_X4_viewsIn F x1 x2 s4) fun r7 s8 =>
      some (r7, s8)
    ) else (
      wt_bnd (f_X4_worthIn F x1 x2 s4) fun r5 s6 =>
      some (r5, s6)
    )
  ) else (
    wt_bnd (f_X4_refuse F r1 s2) fun r9 s10 =>
    some (r9, s10)
  )
  ) := rfl
noncomputable def f_X4_owns (F : Nat) (x1 : Int32) (x2 : Int32) (x3 : Int32) (σ : Mem) : Option (Int32 × Mem) :=
  wt_lt (up2 σ 101 10 (0 : Int32)) fun s11 =>
  wt_bnd (f_X4_isLooker F x1 s11) fun r12 s13 =>
  if r12 = 0 then (
    j_X4_owns_25 F x1 x2 x3 (-1 : Int32) s13
  ) else (
    wt_bnd (f_X4_wrongNumber F x2 (0 : Int32) (999 : Int32) s13) fun r14 s15 =>
    j_X4_owns_25 F x1 x2 x3 r14 s15
  )
theorem f_X4_owns_e {F : Nat} {x1 : Int32} {x2 : Int32} {x3 : Int32} {σ : Mem} : f_X4_owns F x1 x2 x3 σ = (
  wt_lt (up2 σ 101 10 (0 : Int32)) fun s11 =>
  wt_bnd (f_X4_isLooker F x1 s11) fun r12 s13 =>
  if r12 = 0 then (
    j_X4_owns_25 F x1 x2 x3 (-1 : Int32) s13
  ) else (
    wt_bnd (f_X4_wrongNumber F x2 (0 : Int32) (999 : Int32) s13) fun r14 s15 =>
    j_X4_owns_25 F x1 x2 x3 r14 s15
  )
  ) := rfl
noncomputable def f_X4_nobodys (F : Nat) (x1 : Int32) (σ : Mem) : Option (Int32 × Mem) :=
  wt_lt (up2 σ 101 10 (0 : Int32)) fun s1 =>
  wt_bnd (f_X4_wrongNumber F x1 (0 : Int32) (999 : Int32) s1) fun r2 s3 =>
  if 0 ≤ r2 then (
    wt_bnd (f_X4_layBrings F s3) fun r4 s5 =>
    wt_bnd (f_X4_viewsIn F (-9 : Int32) x1 s5) fun r6 s7 =>
    some (r6, s7)
  ) else (
    wt_bnd (f_X4_wrongNumber F x1 (0 : Int32) (999 : Int32) s3) fun r8 s9 =>
    wt_bnd (f_X4_refuse F r8 s9) fun r10 s11 =>
    some (r10, s11)
  )
theorem f_X4_nobodys_e {F : Nat} {x1 : Int32} {σ : Mem} : f_X4_nobodys F x1 σ = (
  wt_lt (up2 σ 101 10 (0 : Int32)) fun s1 =>
  wt_bnd (f_X4_wrongNumber F x1 (0 : Int32) (999 : Int32) s1) fun r2 s3 =>
  if 0 ≤ r2 then (
    wt_bnd (f_X4_layBrings F s3) fun r4 s5 =>
    wt_bnd (f_X4_viewsIn F (-9 : Int32) x1 s5) fun r6 s7 =>
    some (r6, s7)
  ) else (
    wt_bnd (f_X4_wrongNumber F x1 (0 : Int32) (999 : Int32) s3) fun r8 s9 =>
    wt_bnd (f_X4_refuse F r8 s9) fun r10 s11 =>
    some (r10, s11)
  )
  ) := rfl
noncomputable def j_X4_from_20 (F : Nat) (σ : Mem) : Option (Int32 × Mem) :=
  wt_bnd (f_X4_refuse F (-1 : Int32) σ) fun r1 s2 =>
  some (r1, s2)
theorem j_X4_from_20_e {F : Nat} {σ : Mem} : j_X4_from_20 F σ = (
  wt_bnd (f_X4_refuse F (-1 : Int32) σ) fun r1 s2 =>
  some (r1, s2)
  ) := rfl
noncomputable def lp_X4_from_32 (F : Nat) (x1 : Int32) (x2 : Int32) : Nat → Int32 → Mem → Option (Int32 × Mem) := fun N => Nat.rec (motive := fun _ => Int32 → Mem → Option (Int32 × Mem)) (fun _ _ => none) (fun _ ih x3 σ =>
  if (999 : Int32) < x3 then (
    some ((-9 : Int32), σ)
  ) else (
    wt_bnd (f_X4_ownerIn F x2 x3 σ) fun r3 s4 =>
    if r3 = x1 then (
      some (x3, s4)
    ) else (
      ih (x3 + (1 : Int32)) s4
    )
  )
  ) N
theorem lp_X4_from_32_s {F N : Nat} {x1 : Int32} {x2 : Int32} {x3 : Int32} {σ : Mem} : lp_X4_from_32 F x1 x2 (N + 1) x3 σ = (
  if (999 : Int32) < x3 then (
    some ((-9 : Int32), σ)
  ) else (
    wt_bnd (f_X4_ownerIn F x2 x3 σ) fun r3 s4 =>
    if r3 = x1 then (
      some (x3, s4)
    ) else (
      (lp_X4_from_32 F x1 x2 N) (x3 + (1 : Int32)) s4
    )
  )
  ) := rfl
noncomputable def f_X4_from (F : Nat) (x1 : Int32) (x2 : Int32) (σ : Mem) : Option (Int32 × Mem) :=
  wt_lt (up2 σ 101 10 (0 : Int32)) fun s5 =>
  wt_bnd (f_X4_isLooker F x1 s5) fun r6 s7 =>
  if r6 = 0 then (
    j_X4_from_20 F s7
  ) else (
    wt_bnd (f_X4_isView F x2 s7) fun r8 s9 =>
    if r8 = 0 then (
      j_X4_from_20 F s9
    ) else (
      wt_bnd (f_X4_layBrings F s9) fun r10 s11 =>
      lp_X4_from_32 F x1 x2 F (0 : Int32) s11
    )
  )
theorem f_X4_from_e {F : Nat} {x1 : Int32} {x2 : Int32} {σ : Mem} : f_X4_from F x1 x2 σ = (
  wt_lt (up2 σ 101 10 (0 : Int32)) fun s5 =>
  wt_bnd (f_X4_isLooker F x1 s5) fun r6 s7 =>
  if r6 = 0 then (
    j_X4_from_20 F s7
  ) else (
    wt_bnd (f_X4_isView F x2 s7) fun r8 s9 =>
    if r8 = 0 then (
      j_X4_from_20 F s9
    ) else (
      wt_bnd (f_X4_layBrings F s9) fun r10 s11 =>
      lp_X4_from_32 F x1 x2 F (0 : Int32) s11
    )
  )
  ) := rfl
noncomputable def lp_X4_lost_42 (F : Nat) (x1 : Int32) (x2 : Int32) : Nat → Int32 → Mem → Option (Int32 × Mem) := fun N => Nat.rec (motive := fun _ => Int32 → Mem → Option (Int32 × Mem)) (fun _ _ => none) (fun _ ih x3 σ =>
  if (999 : Int32) < x3 then (
    some ((-9 : Int32), σ)
  ) else (
    wt_bnd (f_X4_ownerIn F x1 x3 σ) fun r1 s2 =>
    if r1 = x2 then (
      ih (x3 + (1 : Int32)) s2
    ) else (
      some (x3, s2)
    )
  )
  ) N
theorem lp_X4_lost_42_s {F N : Nat} {x1 : Int32} {x2 : Int32} {x3 : Int32} {σ : Mem} : lp_X4_lost_42 F x1 x2 (N + 1) x3 σ = (
  if (999 : Int32) < x3 then (
    some ((-9 : Int32), σ)
  ) else (
    wt_bnd (f_X4_ownerIn F x1 x3 σ) fun r1 s2 =>
    if r1 = x2 then (
      (lp_X4_lost_42 F x1 x2 N) (x3 + (1 : Int32)) s2
    ) else (
      some (x3, s2)
    )
  )
  ) := rfl
noncomputable def f_X4_lost (F : Nat) (x1 : Int32) (σ : Mem) : Option (Int32 × Mem) :=
  wt_lt (up2 σ 101 10 (0 : Int32)) fun s3 =>
  wt_bnd (f_X4_isView F x1 s3) fun r4 s5 =>
  if r4 = 0 then (
    wt_bnd (f_X4_refuse F (-1 : Int32) s5) fun r12 s13 =>
    some (r12, s13)
  ) else (
    wt_bnd (f_X4_layBrings F s5) fun r6 s7 =>
    wt_bnd (f_X4_ownerIn F x1 (0 : Int32) s7) fun r8 s9 =>
    if 0 ≤ r8 then (
      lp_X4_lost_42 F x1 r8 F (1 : Int32) s9
    ) else (
      wt_bnd (f_X4_refuse F (-3 : Int32) s9) fun r10 s11 =>
      some (r10, s11)
    )
  )
theorem f_X4_lost_e {F : Nat} {x1 : Int32} {σ : Mem} : f_X4_lost F x1 σ = (
  wt_lt (up2 σ 101 10 (0 : Int32)) fun s3 =>
  wt_bnd (f_X4_isView F x1 s3) fun r4 s5 =>
  if r4 = 0 then (
    wt_bnd (f_X4_refuse F (-1 : Int32) s5) fun r12 s13 =>
    some (r12, s13)
  ) else (
    wt_bnd (f_X4_layBrings F s5) fun r6 s7 =>
    wt_bnd (f_X4_ownerIn F x1 (0 : Int32) s7) fun r8 s9 =>
    if 0 ≤ r8 then (
      lp_X4_lost_42 F x1 r8 F (1 : Int32) s9
    ) else (
      wt_bnd (f_X4_refuse F (-3 : Int32) s9) fun r10 s11 =>
      some (r10, s11)
    )
  )
  ) := rfl
noncomputable def j_X4_richestIn_37 (F : Nat) (k5 : Int32 → Int32 → Mem → Option (Int32 × Mem)) (x1 : Int32) (x3 : Int32) (t0 : Int32) (σ : Mem) : Option (Int32 × Mem) :=
  k5 t0 (x3 + (1 : Int32)) σ
theorem j_X4_richestIn_37_e {F : Nat} {k5 : Int32 → Int32 → Mem → Option (Int32 × Mem)} {x1 : Int32} {x3 : Int32} {t0 : Int32} {σ : Mem} : j_X4_richestIn_37 F k5 x1 x3 t0 σ = (
  k5 t0 (x3 + (1 : Int32)) σ
  ) := rfl
noncomputable def j_X4_richestIn_32 (F : Nat) (k5 : Int32 → Int32 → Mem → Option (Int32 × Mem)) (x1 : Int32) (x3 : Int32) (σ : Mem) : Option (Int32 × Mem) :=
  j_X4_richestIn_37 F k5 x1 x3 x3 σ
theorem j_X4_richestIn_32_e {F : Nat} {k5 : Int32 → Int32 → Mem → Option (Int32 × Mem)} {x1 : Int32} {x3 : Int32} {σ : Mem} : j_X4_richestIn_32 F k5 x1 x3 σ = (
  j_X4_richestIn_37 F k5 x1 x3 x3 σ
  ) := rfl
noncomputable def lp_X4_richestIn_5 (F : Nat) (x1 : Int32) : Nat → Int32 → Int32 → Mem → Option (Int32 × Mem) := fun N => Nat.rec (motive := fun _ => Int32 → Int32 → Mem → Option (Int32 × Mem)) (fun _ _ _ => none) (fun _ ih x2 x3 σ =>
  if (σ 101 3) ≤ x3 then (
    some (x2, σ)
  ) else (
    if x2 < 0 then (
      j_X4_richestIn_32 F ih x1 x3 σ
    ) else (
      wt_bnd (f_X4_worthIn F x3 x1 σ) fun r1 s2 =>
      wt_bnd (f_X4_worthIn F x2 x1 s2) fun r3 s4 =>
      if r1 ≤ r3 then (
        j_X4_richestIn_37 F ih x1 x3 x2 s4
      ) else (
        j_X4_richestIn_32 F ih x1 x3 s4
      )
    )
  )
  ) N
theorem lp_X4_richestIn_5_s {F N : Nat} {x1 : Int32} {x2 : Int32} {x3 : Int32} {σ : Mem} : lp_X4_richestIn_5 F x1 (N + 1) x2 x3 σ = (
  if (σ 101 3) ≤ x3 then (
    some (x2, σ)
  ) else (
    if x2 < 0 then (
      j_X4_richestIn_32 F (lp_X4_richestIn_5 F x1 N) x1 x3 σ
    ) else (
      wt_bnd (f_X4_worthIn F x3 x1 σ) fun r1 s2 =>
      wt_bnd (f_X4_worthIn F x2 x1 s2) fun r3 s4 =>
      if r1 ≤ r3 then (
        j_X4_richestIn_37 F (lp_X4_richestIn_5 F x1 N) x1 x3 x2 s4
      ) else (
        j_X4_richestIn_32 F (lp_X4_richestIn_5 F x1 N) x1 x3 s4
      )
    )
  )
  ) := rfl
noncomputable def f_X4_richestIn (F : Nat) (x1 : Int32) (σ : Mem) : Option (Int32 × Mem) :=
  lp_X4_richestIn_5 F x1 F (-9 : Int32) (0 : Int32) σ
theorem f_X4_richestIn_e {F : Nat} {x1 : Int32} {σ : Mem} : f_X4_richestIn F x1 σ = (
  lp_X4_richestIn_5 F x1 F (-9 : Int32) (0 : Int32) σ
  ) := rfl
noncomputable def j_X4_richest_49 (F : Nat) (x4 : Int32) (σ : Mem) : Option (Int32 × Mem) :=
  some (x4, σ)
theorem j_X4_richest_49_e {F : Nat} {x4 : Int32} {σ : Mem} : j_X4_richest_49 F x4 σ = (
  some (x4, σ)
  ) := rfl
noncomputable def f_X4_richest (F : Nat) (x1 : Int32) (x2 : Int32) (σ : Mem) : Option (Int32 × Mem) :=
  wt_lt (up2 σ 101 10 (0 : Int32)) fun s1 =>
  wt_bnd (f_X4_wrongNumber F x1 (0 : Int32) (999 : Int32) s1) fun r2 s3 =>
  wt_bnd (f_X4_wrongBit F r2 x2 (1 : Int32) s3) fun r4 s5 =>
  if 0 ≤ r4 then (
    wt_bnd (f_X4_layBrings F s5) fun r6 s7 =>
    wt_bnd (f_X4_richestIn F x1 s7) fun r8 s9 =>
    if x2 = 0 then (
      j_X4_richest_49 F r8 s9
    ) else (
      if 0 ≤ r8 then (
        wt_bnd (f_X4_worthIn F r8 x1 s9) fun r10 s11 =>
        some (r10, s11)
      ) else (
        j_X4_richest_49 F r8 s9
      )
    )
  ) else (
    wt_bnd (f_X4_refuse F r4 s5) fun r12 s13 =>
    some (r12, s13)
  )
theorem f_X4_richest_e {F : Nat} {x1 : Int32} {x2 : Int32} {σ : Mem} : f_X4_richest F x1 x2 σ = (
  wt_lt (up2 σ 101 10 (0 : Int32)) fun s1 =>
  wt_bnd (f_X4_wrongNumber F x1 (0 : Int32) (999 : Int32) s1) fun r2 s3 =>
  wt_bnd (f_X4_wrongBit F r2 x2 (1 : Int32) s3) fun r4 s5 =>
  if 0 ≤ r4 then (
    wt_bnd (f_X4_layBrings F s5) fun r6 s7 =>
    wt_bnd (f_X4_richestIn F x1 s7) fun r8 s9 =>
    if x2 = 0 then (
      j_X4_richest_49 F r8 s9
    ) else (
      if 0 ≤ r8 then (
        wt_bnd (f_X4_worthIn F r8 x1 s9) fun r10 s11 =>
        some (r10, s11)
      ) else (
        j_X4_richest_49 F r8 s9
      )
    )
  ) else (
    wt_bnd (f_X4_refuse F r4 s5) fun r12 s13 =>
    some (r12, s13)
  )
  ) := rfl
noncomputable def j_X4_staredOut_26 (F : Nat) (x1 : Int32) (x2 : Int32) (x3 : Int32) (t0 : Int32) (σ : Mem) : Option (Int32 × Mem) :=
  if 0 ≤ t0 then (
    wt_bnd (f_X4_layBrings F σ) fun r1 s2 =>
    wt_bnd (f_X4_viewsIn F x1 (0 : Int32) s2) fun r3 s4 =>
    wt_bnd (f_X4_viewsIn F x2 x3 s4) fun r5 s6 =>
    some ((r3 &&& r5), s6)
  ) else (
    wt_bnd (f_X4_refuse F t0 σ) fun r7 s8 =>
    some (r7, s8)
  )
theorem j_X4_staredOut_26_e {F : Nat} {x1 : Int32} {x2 : Int32} {x3 : Int32} {t0 : Int32} {σ : Mem} : j_X4_staredOut_26 F x1 x2 x3 t0 σ = (
  if 0 ≤ t0 then (
    wt_bnd (f_X4_layBrings F σ) fun r1 s2 =>
    wt_bnd (f_X4_viewsIn F x1 (0 : Int32) s2) fun r3 s4 =>
    wt_bnd (f_X4_viewsIn F x2 x3 s4) fun r5 s6 =>
    some ((r3 &&& r5), s6)
  ) else (
    wt_bnd (f_X4_refuse F t0 σ) fun r7 s8 =>
    some (r7, s8)
  )
  ) := rfl
noncomputable def f_X4_staredOut (F : Nat) (x1 : Int32) (x2 : Int32) (x3 : Int32) (σ : Mem) : Option (Int32 × Mem) :=
  wt_lt (up2 σ 101 10 (0 : Int32)) fun s9 =>
  wt_bnd (f_X4_areTwo F x1 x2 s9) fun r10 s11 =>
  if r10 = 0 then (
    j_X4_staredOut_26 F x1 x2 x3 (-1 : Int32) s11
  ) else (
    wt_bnd (f_X4_wrongNumber F x3 (0 : Int32) (999 : Int32) s11) fun r12 s13 =>
    j_X4_staredOut_26 F x1 x2 x3 r12 s13
  )
theorem f_X4_staredOut_e {F : Nat} {x1 : Int32} {x2 : Int32} {x3 : Int32} {σ : Mem} : f_X4_staredOut F x1 x2 x3 σ = (
  wt_lt (up2 σ 101 10 (0 : Int32)) fun s9 =>
  wt_bnd (f_X4_areTwo F x1 x2 s9) fun r10 s11 =>
  if r10 = 0 then (
    j_X4_staredOut_26 F x1 x2 x3 (-1 : Int32) s11
  ) else (
    wt_bnd (f_X4_wrongNumber F x3 (0 : Int32) (999 : Int32) s11) fun r12 s13 =>
    j_X4_staredOut_26 F x1 x2 x3 r12 s13
  )
  ) := rfl
noncomputable def j_X4_moreHours_83 (F : Nat) (σ : Mem) : Option (Int32 × Mem) :=
  some ((-9 : Int32), σ)
theorem j_X4_moreHours_83_e {F : Nat} {σ : Mem} : j_X4_moreHours_83 F σ = (
  some ((-9 : Int32), σ)
  ) := rfl
noncomputable def j_X4_moreHours_167 (F : Nat) (k93 : Int32 → Int32 → Mem → Option (Int32 × Mem)) (k101 : Int32 → Int32 → Mem → Option (Int32 × Mem)) (x1 : Int32) (x2 : Int32) (x3 : Int32) (x5 : Int32) (x6 : Int32) (x7 : Int32) (σ : Mem) : Option (Int32 × Mem) :=
  k101 x5 (x7 + (1 : Int32)) σ
theorem j_X4_moreHours_167_e {F : Nat} {k93 : Int32 → Int32 → Mem → Option (Int32 × Mem)} {k101 : Int32 → Int32 → Mem → Option (Int32 × Mem)} {x1 : Int32} {x2 : Int32} {x3 : Int32} {x5 : Int32} {x6 : Int32} {x7 : Int32} {σ : Mem} : j_X4_moreHours_167 F k93 k101 x1 x2 x3 x5 x6 x7 σ = (
  k101 x5 (x7 + (1 : Int32)) σ
  ) := rfl
noncomputable def lp_X4_moreHours_101 (F : Nat) (k93 : Int32 → Int32 → Mem → Option (Int32 × Mem)) (x1 : Int32) (x2 : Int32) (x3 : Int32) (x6 : Int32) : Nat → Int32 → Int32 → Mem → Option (Int32 × Mem) := fun N => Nat.rec (motive := fun _ => Int32 → Int32 → Mem → Option (Int32 × Mem)) (fun _ _ _ => none) (fun _ ih x5 x7 σ =>
  if (24 : Int32) ≤ x7 then (
    k93 x5 (x6 + (-1 : Int32)) σ
  ) else (
    wt_chk (((24 : Int32) * x1) + x7) 120 <|
    if 0 ≤ (σ 106 (Int32.toNatClampNeg (((24 : Int32) * x1) + x7))) then (
      j_X4_moreHours_167 F k93 ih x1 x2 x3 x5 x6 x7 σ
    ) else (
      wt_bnd (f_X4_pullOf F x1 x7 σ) fun r2 s3 =>
      if r2 = x6 then (
        wt_chk (((8 : Int32) * x1) + x2) 40 <|
        wt_lt (up2 s3 109 (Int32.toNatClampNeg (((8 : Int32) * x1) + x2)) ((s3 109 (Int32.toNatClampNeg (((8 : Int32) * x1) + x2))) + x6)) fun s5 =>
        wt_bnd (f_X4_ownerIn F x2 x3 s5) fun r6 s7 =>
        if r6 = x1 then (
          some ((x5 + (1 : Int32)), s7)
        ) else (
          j_X4_moreHours_167 F k93 ih x1 x2 x3 (x5 + (1 : Int32)) x6 x7 s7
        )
      ) else (
        j_X4_moreHours_167 F k93 ih x1 x2 x3 x5 x6 x7 s3
      )
    )
  )
  ) N
theorem lp_X4_moreHours_101_s {F N : Nat} {k93 : Int32 → Int32 → Mem → Option (Int32 × Mem)} {x1 : Int32} {x2 : Int32} {x3 : Int32} {x6 : Int32} {x5 : Int32} {x7 : Int32} {σ : Mem} : lp_X4_moreHours_101 F k93 x1 x2 x3 x6 (N + 1) x5 x7 σ = (
  if (24 : Int32) ≤ x7 then (
    k93 x5 (x6 + (-1 : Int32)) σ
  ) else (
    wt_chk (((24 : Int32) * x1) + x7) 120 <|
    if 0 ≤ (σ 106 (Int32.toNatClampNeg (((24 : Int32) * x1) + x7))) then (
      j_X4_moreHours_167 F k93 (lp_X4_moreHours_101 F k93 x1 x2 x3 x6 N) x1 x2 x3 x5 x6 x7 σ
    ) else (
      wt_bnd (f_X4_pullOf F x1 x7 σ) fun r2 s3 =>
      if r2 = x6 then (
        wt_chk (((8 : Int32) * x1) + x2) 40 <|
        wt_lt (up2 s3 109 (Int32.toNatClampNeg (((8 : Int32) * x1) + x2)) ((s3 109 (Int32.toNatClampNeg (((8 : Int32) * x1) + x2))) + x6)) fun s5 =>
        wt_bnd (f_X4_ownerIn F x2 x3 s5) fun r6 s7 =>
        if r6 = x1 then (
          some ((x5 + (1 : Int32)), s7)
        ) else (
          j_X4_moreHours_167 F k93 (lp_X4_moreHours_101 F k93 x1 x2 x3 x6 N) x1 x2 x3 (x5 + (1 : Int32)) x6 x7 s7
        )
      ) else (
        j_X4_moreHours_167 F k93 (lp_X4_moreHours_101 F k93 x1 x2 x3 x6 N) x1 x2 x3 x5 x6 x7 s3
      )
    )
  )
  ) := rfl
noncomputable def lp_X4_moreHours_93 (F : Nat) (x1 : Int32) (x2 : Int32) (x3 : Int32) : Nat → Int32 → Int32 → Mem → Option (Int32 × Mem) := fun N => Nat.rec (motive := fun _ => Int32 → Int32 → Mem → Option (Int32 × Mem)) (fun _ _ _ => none) (fun _ ih x5 x6 σ =>
  if x6 < 0 then (
    some ((-9 : Int32), σ)
  ) else (
    lp_X4_moreHours_101 F ih x1 x2 x3 x6 F x5 (0 : Int32) σ
  )
  ) N
theorem lp_X4_moreHours_93_s {F N : Nat} {x1 : Int32} {x2 : Int32} {x3 : Int32} {x5 : Int32} {x6 : Int32} {σ : Mem} : lp_X4_moreHours_93 F x1 x2 x3 (N + 1) x5 x6 σ = (
  if x6 < 0 then (
    some ((-9 : Int32), σ)
  ) else (
    lp_X4_moreHours_101 F (lp_X4_moreHours_93 F x1 x2 x3 N) x1 x2 x3 x6 F x5 (0 : Int32) σ
  )
  ) := rfl
noncomputable def j_X4_moreHours_32 (F : Nat) (x1 : Int32) (x2 : Int32) (x3 : Int32) (t0 : Int32) (σ : Mem) : Option (Int32 × Mem) :=
  if 0 ≤ t0 then (
    wt_bnd (f_X4_layBrings F σ) fun r8 s9 =>
    wt_bnd (f_X4_ownerIn F x2 x3 s9) fun r10 s11 =>
    if r10 = x1 then (
      some ((0 : Int32), s11)
    ) else (
      wt_chk x1 5 <|
      if (s11 104 (Int32.toNatClampNeg x1)) = (2 : Int32) then (
        j_X4_moreHours_83 F s11
      ) else (
        wt_bnd (f_X4_allShown F s11) fun r13 s14 =>
        wt_bnd (f_X4_hasBit F r13 x2 s14) fun r15 s16 =>
        if r15 = 0 then (
          j_X4_moreHours_83 F s16
        ) else (
          lp_X4_moreHours_93 F x1 x2 x3 F (0 : Int32) (10 : Int32) s16
        )
      )
    )
  ) else (
    wt_bnd (f_X4_refuse F t0 σ) fun r17 s18 =>
    some (r17, s18)
  )
theorem j_X4_moreHours_32_e {F : Nat} {x1 : Int32} {x2 : Int32} {x3 : Int32} {t0 : Int32} {σ : Mem} : j_X4_moreHours_32 F x1 x2 x3 t0 σ = (
  if 0 ≤ t0 then (
    wt_bnd (f_X4_layBrings F σ) fun r8 s9 =>
    wt_bnd (f_X4_ownerIn F x2 x3 s9) fun r10 s11 =>
    if r10 = x1 then (
      some ((0 : Int32), s11)
    ) else (
      wt_chk x1 5 <|
      if (s11 104 (Int32.toNatClampNeg x1)) = (2 : Int32) then (
        j_X4_moreHours_83 F s11
      ) else (
        wt_bnd (f_X4_allShown F s11) fun r13 s14 =>
        wt_bnd (f_X4_hasBit F r13 x2 s14) fun r15 s16 =>
        if r15 = 0 then (
          j_X4_moreHours_83 F s16
        ) else (
          lp_X4_moreHours_93 F x1 x2 x3 F (0 : Int32) (10 : Int32) s16
        )
      )
    )
  ) else (
    wt_bnd (f_X4_refuse F t0 σ) fun r17 s18 =>
    some (r17, s18)
  )
  ) := rfl
noncomputable def j_X4_moreHours_31 (F : Nat) (x1 : Int32) (x2 : Int32) (x3 : Int32) (σ : Mem) : Option (Int32 × Mem) :=
  j_X4_moreHours_32 F x1 x2 x3 (-1 : Int32) σ
theorem j_X4_moreHours_31_e {F : Nat} {x1 : Int32} {x2 : Int32} {x3 : Int32} {σ : Mem} : j_X4_moreHours_31 F x1 x2 x3 σ = (
  j_X4_moreHours_32 F x1 x2 x3 (-1 : Int32) σ
  ) := rfl
noncomputable def f_X4_moreHours (F : Nat) (x1 : Int32) (x2 : Int32) (x3 : Int32) (σ : Mem) : Option (Int32 × Mem) :=
  wt_lt (up2 σ 101 10 (0 : Int32)) fun s19 =>
  wt_bnd (f_X4_isLooker F x1 s19) fun r20 s21 =>
  if r20 = 0 then (
    j_X4_moreHours_31 F x1 x2 x3 s21
  ) else (
    wt_bnd (f_X4_isView F x2 s21) fun r22 s23 =>
    if r22 = 0 then (
      j_X4_moreHours_31 F x1 x2 x3 s23
    ) else (
      wt_bnd (f_X4_wrongNumber F x3 (1 : Int32) (999 : Int32) s23) fun r24 s25 =>
      j_X4_moreHours_32 F x1 x2 x3 r24 s25
    )
  )
theorem f_X4_moreHours_e {F : Nat} {x1 : Int32} {x2 : Int32} {x3 : Int32} {σ : Mem} : f_X4_moreHours F x1 x2 x3 σ = (
  wt_lt (up2 σ 101 10 (0 : Int32)) fun s19 =>
  wt_bnd (f_X4_isLooker F x1 s19) fun r20 s21 =>
  if r20 = 0 then (
    j_X4_moreHours_31 F x1 x2 x3 s21
  ) else (
    wt_bnd (f_X4_isView F x2 s21) fun r22 s23 =>
    if r22 = 0 then (
      j_X4_moreHours_31 F x1 x2 x3 s23
    ) else (
      wt_bnd (f_X4_wrongNumber F x3 (1 : Int32) (999 : Int32) s23) fun r24 s25 =>
      j_X4_moreHours_32 F x1 x2 x3 r24 s25
    )
  )
  ) := rfl
noncomputable def j_X4_bestPane_162 (F : Nat) (k74 : Int32 → Int32 → Int32 → Mem → Option (Int32 × Mem)) (x1 : Int32) (x2 : Int32) (x3 : Int32) (x4 : Int32) (x6 : Int32) (x7 : Int32) (x9 : Int32) (t0 : Int32) (σ : Mem) : Option (Int32 × Mem) :=
  k74 x7 t0 (x9 + (1 : Int32)) σ
theorem j_X4_bestPane_162_e {F : Nat} {k74 : Int32 → Int32 → Int32 → Mem → Option (Int32 × Mem)} {x1 : Int32} {x2 : Int32} {x3 : Int32} {x4 : Int32} {x6 : Int32} {x7 : Int32} {x9 : Int32} {t0 : Int32} {σ : Mem} : j_X4_bestPane_162 F k74 x1 x2 x3 x4 x6 x7 x9 t0 σ = (
  k74 x7 t0 (x9 + (1 : Int32)) σ
  ) := rfl
noncomputable def j_X4_bestPane_146 (F : Nat) (k74 : Int32 → Int32 → Int32 → Mem → Option (Int32 × Mem)) (x1 : Int32) (x2 : Int32) (x3 : Int32) (x4 : Int32) (x6 : Int32) (x8 : Int32) (x9 : Int32) (x10 : Int32) (t0 : Int32) (σ : Mem) : Option (Int32 × Mem) :=
  if x10 ≤ x8 then (
    j_X4_bestPane_162 F k74 x1 x2 x3 x4 x6 t0 x9 x8 σ
  ) else (
    j_X4_bestPane_162 F k74 x1 x2 x3 x4 x6 t0 x9 x10 σ
  )
theorem j_X4_bestPane_146_e {F : Nat} {k74 : Int32 → Int32 → Int32 → Mem → Option (Int32 × Mem)} {x1 : Int32} {x2 : Int32} {x3 : Int32} {x4 : Int32} {x6 : Int32} {x8 : Int32} {x9 : Int32} {x10 : Int32} {t0 : Int32} {σ : Mem} : j_X4_bestPane_146 F k74 x1 x2 x3 x4 x6 x8 x9 x10 t0 σ = (
  if x10 ≤ x8 then (
    j_X4_bestPane_162 F k74 x1 x2 x3 x4 x6 t0 x9 x8 σ
  ) else (
    j_X4_bestPane_162 F k74 x1 x2 x3 x4 x6 t0 x9 x10 σ
  )
  ) := rfl
noncomputable def j_X4_bestPane_109 (F : Nat) (k74 : Int32 → Int32 → Int32 → Mem → Option (Int32 × Mem)) (x1 : Int32) (x2 : Int32) (x3 : Int32) (x4 : Int32) (x6 : Int32) (x7 : Int32) (x8 : Int32) (x9 : Int32) (t1 : Int32) (t2 : Int32) (σ : Mem) : Option (Int32 × Mem) :=
  wt_chk t1 120 <|
  wt_lt (up2 σ 106 (Int32.toNatClampNeg t1) t2) fun s2 =>
  wt_bnd (f_X4_worthAnew F x1 x3 s2) fun r3 s4 =>
  if r3 ≤ x8 then (
    j_X4_bestPane_146 F k74 x1 x2 x3 x4 x6 x8 x9 r3 x7 s4
  ) else (
    if x9 = (s4 101 1) then (
      j_X4_bestPane_146 F k74 x1 x2 x3 x4 x6 x8 x9 r3 (9 : Int32) s4
    ) else (
      j_X4_bestPane_146 F k74 x1 x2 x3 x4 x6 x8 x9 r3 x9 s4
    )
  )
theorem j_X4_bestPane_109_e {F : Nat} {k74 : Int32 → Int32 → Int32 → Mem → Option (Int32 × Mem)} {x1 : Int32} {x2 : Int32} {x3 : Int32} {x4 : Int32} {x6 : Int32} {x7 : Int32} {x8 : Int32} {x9 : Int32} {t1 : Int32} {t2 : Int32} {σ : Mem} : j_X4_bestPane_109 F k74 x1 x2 x3 x4 x6 x7 x8 x9 t1 t2 σ = (
  wt_chk t1 120 <|
  wt_lt (up2 σ 106 (Int32.toNatClampNeg t1) t2) fun s2 =>
  wt_bnd (f_X4_worthAnew F x1 x3 s2) fun r3 s4 =>
  if r3 ≤ x8 then (
    j_X4_bestPane_146 F k74 x1 x2 x3 x4 x6 x8 x9 r3 x7 s4
  ) else (
    if x9 = (s4 101 1) then (
      j_X4_bestPane_146 F k74 x1 x2 x3 x4 x6 x8 x9 r3 (9 : Int32) s4
    ) else (
      j_X4_bestPane_146 F k74 x1 x2 x3 x4 x6 x8 x9 r3 x9 s4
    )
  )
  ) := rfl
noncomputable def lp_X4_bestPane_74 (F : Nat) (x1 : Int32) (x2 : Int32) (x3 : Int32) (x4 : Int32) (x6 : Int32) : Nat → Int32 → Int32 → Int32 → Mem → Option (Int32 × Mem) := fun N => Nat.rec (motive := fun _ => Int32 → Int32 → Int32 → Mem → Option (Int32 × Mem)) (fun _ _ _ _ => none) (fun _ ih x7 x8 x9 σ =>
  if (σ 101 1) < x9 then (
    wt_chk (((24 : Int32) * x1) + x2) 120 <|
    wt_lt (up2 σ 106 (Int32.toNatClampNeg (((24 : Int32) * x1) + x2)) x6) fun s6 =>
    if x4 = 0 then (
      some (x7, s6)
    ) else (
      some (x8, s6)
    )
  ) else (
    if x9 = (σ 101 1) then (
      j_X4_bestPane_109 F ih x1 x2 x3 x4 x6 x7 x8 x9 (((24 : Int32) * x1) + x2) (-9 : Int32) σ
    ) else (
      j_X4_bestPane_109 F ih x1 x2 x3 x4 x6 x7 x8 x9 (((24 : Int32) * x1) + x2) x9 σ
    )
  )
  ) N
theorem lp_X4_bestPane_74_s {F N : Nat} {x1 : Int32} {x2 : Int32} {x3 : Int32} {x4 : Int32} {x6 : Int32} {x7 : Int32} {x8 : Int32} {x9 : Int32} {σ : Mem} : lp_X4_bestPane_74 F x1 x2 x3 x4 x6 (N + 1) x7 x8 x9 σ = (
  if (σ 101 1) < x9 then (
    wt_chk (((24 : Int32) * x1) + x2) 120 <|
    wt_lt (up2 σ 106 (Int32.toNatClampNeg (((24 : Int32) * x1) + x2)) x6) fun s6 =>
    if x4 = 0 then (
      some (x7, s6)
    ) else (
      some (x8, s6)
    )
  ) else (
    if x9 = (σ 101 1) then (
      j_X4_bestPane_109 F (lp_X4_bestPane_74 F x1 x2 x3 x4 x6 N) x1 x2 x3 x4 x6 x7 x8 x9 (((24 : Int32) * x1) + x2) (-9 : Int32) σ
    ) else (
      j_X4_bestPane_109 F (lp_X4_bestPane_74 F x1 x2 x3 x4 x6 N) x1 x2 x3 x4 x6 x7 x8 x9 (((24 : Int32) * x1) + x2) x9 σ
    )
  )
  ) := rfl
noncomputable def j_X4_bestPane_32 (F : Nat) (x1 : Int32) (x2 : Int32) (x3 : Int32) (x4 : Int32) (t0 : Int32) (σ : Mem) : Option (Int32 × Mem) :=
  wt_bnd (f_X4_wrongBit F t0 x4 (1 : Int32) σ) fun r7 s8 =>
  if 0 ≤ r7 then (
    wt_chk (((24 : Int32) * x1) + x2) 120 <|
    wt_lt (s8 106 (Int32.toNatClampNeg (((24 : Int32) * x1) + x2))) fun z10 =>
    lp_X4_bestPane_74 F x1 x2 x3 x4 z10 F (-1 : Int32) (-1 : Int32) (0 : Int32) s8
  ) else (
    wt_bnd (f_X4_refuse F r7 s8) fun r11 s12 =>
    some (r11, s12)
  )
theorem j_X4_bestPane_32_e {F : Nat} {x1 : Int32} {x2 : Int32} {x3 : Int32} {x4 : Int32} {t0 : Int32} {σ : Mem} : j_X4_bestPane_32 F x1 x2 x3 x4 t0 σ = (
  wt_bnd (f_X4_wrongBit F t0 x4 (1 : Int32) σ) fun r7 s8 =>
  if 0 ≤ r7 then (
    wt_chk (((24 : Int32) * x1) + x2) 120 <|
    wt_lt (s8 106 (Int32.toNatClampNeg (((24 : Int32) * x1) + x2))) fun z10 =>
    lp_X4_bestPane_74 F x1 x2 x3 x4 z10 F (-1 : Int32) (-1 : Int32) (0 : Int32) s8
  ) else (
    wt_bnd (f_X4_refuse F r7 s8) fun r11 s12 =>
    some (r11, s12)
  )
  ) := rfl
noncomputable def j_X4_bestPane_31 (F : Nat) (x1 : Int32) (x2 : Int32) (x3 : Int32) (x4 : Int32) (σ : Mem) : Option (Int32 × Mem) :=
  j_X4_bestPane_32 F x1 x2 x3 x4 (-1 : Int32) σ
theorem j_X4_bestPane_31_e {F : Nat} {x1 : Int32} {x2 : Int32} {x3 : Int32} {x4 : Int32} {σ : Mem} : j_X4_bestPane_31 F x1 x2 x3 x4 σ = (
  j_X4_bestPane_32 F x1 x2 x3 x4 (-1 : Int32) σ
  ) := rfl
noncomputable def f_X4_bestPane (F : Nat) (x1 : Int32) (x2 : Int32) (x3 : Int32) (x4 : Int32) (σ : Mem) : Option (Int32 × Mem) :=
  wt_lt (up2 σ 101 10 (0 : Int32)) fun s13 =>
  wt_bnd (f_X4_isLooker F x1 s13) fun r14 s15 =>
  if r14 = 0 then (
    j_X4_bestPane_31 F x1 x2 x3 x4 s15
  ) else (
    wt_bnd (f_X4_isHour F x2 s15) fun r16 s17 =>
    if r16 = 0 then (
      j_X4_bestPane_31 F x1 x2 x3 x4 s17
    ) else (
      wt_bnd (f_X4_wrongNumber F x3 (0 : Int32) (999 : Int32) s17) fun r18 s19 =>
      j_X4_bestPane_32 F x1 x2 x3 x4 r18 s19
    )
  )
theorem f_X4_bestPane_e {F : Nat} {x1 : Int32} {x2 : Int32} {x3 : Int32} {x4 : Int32} {σ : Mem} : f_X4_bestPane F x1 x2 x3 x4 σ = (
  wt_lt (up2 σ 101 10 (0 : Int32)) fun s13 =>
  wt_bnd (f_X4_isLooker F x1 s13) fun r14 s15 =>
  if r14 = 0 then (
    j_X4_bestPane_31 F x1 x2 x3 x4 s15
  ) else (
    wt_bnd (f_X4_isHour F x2 s15) fun r16 s17 =>
    if r16 = 0 then (
      j_X4_bestPane_31 F x1 x2 x3 x4 s17
    ) else (
      wt_bnd (f_X4_wrongNumber F x3 (0 : Int32) (999 : Int32) s17) fun r18 s19 =>
      j_X4_bestPane_32 F x1 x2 x3 x4 r18 s19
    )
  )
  ) := rfl
noncomputable def j_X4_freeHours_119 (F : Nat) (k54 : Int32 → Int32 → Mem → Option (Int32 × Mem)) (x1 : Int32) (x2 : Int32) (x4 : Int32) (x6 : Int32) (x7 : Int32) (t0 : Int32) (t1 : Int32) (σ : Mem) : Option (Int32 × Mem) :=
  wt_chk (((24 : Int32) * x1) + x6) 120 <|
  wt_lt (up2 σ 106 (Int32.toNatClampNeg (((24 : Int32) * x1) + x6)) x7) fun s2 =>
  k54 (t0 ||| t1) (x6 + (1 : Int32)) s2
theorem j_X4_freeHours_119_e {F : Nat} {k54 : Int32 → Int32 → Mem → Option (Int32 × Mem)} {x1 : Int32} {x2 : Int32} {x4 : Int32} {x6 : Int32} {x7 : Int32} {t0 : Int32} {t1 : Int32} {σ : Mem} : j_X4_freeHours_119 F k54 x1 x2 x4 x6 x7 t0 t1 σ = (
  wt_chk (((24 : Int32) * x1) + x6) 120 <|
  wt_lt (up2 σ 106 (Int32.toNatClampNeg (((24 : Int32) * x1) + x6)) x7) fun s2 =>
  k54 (t0 ||| t1) (x6 + (1 : Int32)) s2
  ) := rfl
noncomputable def j_X4_freeHours_118 (F : Nat) (k54 : Int32 → Int32 → Mem → Option (Int32 × Mem)) (x1 : Int32) (x2 : Int32) (x4 : Int32) (x6 : Int32) (x7 : Int32) (t0 : Int32) (σ : Mem) : Option (Int32 × Mem) :=
  j_X4_freeHours_119 F k54 x1 x2 x4 x6 x7 t0 (0 : Int32) σ
theorem j_X4_freeHours_118_e {F : Nat} {k54 : Int32 → Int32 → Mem → Option (Int32 × Mem)} {x1 : Int32} {x2 : Int32} {x4 : Int32} {x6 : Int32} {x7 : Int32} {t0 : Int32} {σ : Mem} : j_X4_freeHours_118 F k54 x1 x2 x4 x6 x7 t0 σ = (
  j_X4_freeHours_119 F k54 x1 x2 x4 x6 x7 t0 (0 : Int32) σ
  ) := rfl
noncomputable def lp_X4_freeHours_54 (F : Nat) (x1 : Int32) (x2 : Int32) (x4 : Int32) : Nat → Int32 → Int32 → Mem → Option (Int32 × Mem) := fun N => Nat.rec (motive := fun _ => Int32 → Int32 → Mem → Option (Int32 × Mem)) (fun _ _ _ => none) (fun _ ih x5 x6 σ =>
  if (24 : Int32) ≤ x6 then (
    some (x5, σ)
  ) else (
    wt_chk (((24 : Int32) * x1) + x6) 120 <|
    wt_lt (σ 106 (Int32.toNatClampNeg (((24 : Int32) * x1) + x6))) fun z4 =>
    wt_lt (up2 σ 106 (Int32.toNatClampNeg (((24 : Int32) * x1) + x6)) (-9 : Int32)) fun s5 =>
    wt_bnd (f_X4_layBrings F s5) fun r6 s7 =>
    if z4 < 0 then (
      j_X4_freeHours_118 F ih x1 x2 x4 x6 z4 x5 s7
    ) else (
      wt_bnd (f_X4_viewsIn F x1 x2 s7) fun r8 s9 =>
      if r8 = x4 then (
        j_X4_freeHours_119 F ih x1 x2 x4 x6 z4 x5 ((1 : Int32) <<< (x6 &&& 31)) s9
      ) else (
        j_X4_freeHours_118 F ih x1 x2 x4 x6 z4 x5 s9
      )
    )
  )
  ) N
theorem lp_X4_freeHours_54_s {F N : Nat} {x1 : Int32} {x2 : Int32} {x4 : Int32} {x5 : Int32} {x6 : Int32} {σ : Mem} : lp_X4_freeHours_54 F x1 x2 x4 (N + 1) x5 x6 σ = (
  if (24 : Int32) ≤ x6 then (
    some (x5, σ)
  ) else (
    wt_chk (((24 : Int32) * x1) + x6) 120 <|
    wt_lt (σ 106 (Int32.toNatClampNeg (((24 : Int32) * x1) + x6))) fun z4 =>
    wt_lt (up2 σ 106 (Int32.toNatClampNeg (((24 : Int32) * x1) + x6)) (-9 : Int32)) fun s5 =>
    wt_bnd (f_X4_layBrings F s5) fun r6 s7 =>
    if z4 < 0 then (
      j_X4_freeHours_118 F (lp_X4_freeHours_54 F x1 x2 x4 N) x1 x2 x4 x6 z4 x5 s7
    ) else (
      wt_bnd (f_X4_viewsIn F x1 x2 s7) fun r8 s9 =>
      if r8 = x4 then (
        j_X4_freeHours_119 F (lp_X4_freeHours_54 F x1 x2 x4 N) x1 x2 x4 x6 z4 x5 ((1 : Int32) <<< (x6 &&& 31)) s9
      ) else (
        j_X4_freeHours_118 F (lp_X4_freeHours_54 F x1 x2 x4 N) x1 x2 x4 x6 z4 x5 s9
      )
    )
  )
  ) := rfl
noncomputable def j_X4_freeHours_25 (F : Nat) (x1 : Int32) (x2 : Int32) (t0 : Int32) (σ : Mem) : Option (Int32 × Mem) :=
  if 0 ≤ t0 then (
    wt_bnd (f_X4_layBrings F σ) fun r10 s11 =>
    wt_bnd (f_X4_viewsIn F x1 x2 s11) fun r12 s13 =>
    lp_X4_freeHours_54 F x1 x2 r12 F (0 : Int32) (0 : Int32) s13
  ) else (
    wt_bnd (f_X4_refuse F t0 σ) fun r14 s15 =>
    some (r14, s15)
  )
theorem j_X4_freeHours_25_e {F : Nat} {x1 : Int32} {x2 : Int32} {t0 : Int32} {σ : Mem} : j_X4_freeHours_25 F x1 x2 t0 σ = (
  if 0 ≤ t0 then (
    wt_bnd (f_X4_layBrings F σ) fun r10 s11 =>
    wt_bnd (f_X4_viewsIn F x1 x2 s11) fun r12 s13 =>
    lp_X4_freeHours_54 F x1 x2 r12 F (0 : Int32) (0 : Int32) s13
  ) else (
    wt_bnd (f_X4_refuse F t0 σ) fun r14 s15 =>
    some (r14, s15)
  )
  ) := rfl
noncomputable def f_X4_freeHours (F : Nat) (x1 : Int32) (x2 : Int32) (σ : Mem) : Option (Int32 × Mem) :=
  wt_lt (up2 σ 101 10 (0 : Int32)) fun s16 =>
  wt_bnd (f_X4_isLooker F x1 s16) fun r17 s18 =>
  if r17 = 0 then (
    j_X4_freeHours_25 F x1 x2 (-1 : Int32) s18
  ) else (
    wt_bnd (f_X4_wrongNumber F x2 (0 : Int32) (999 : Int32) s18) fun r19 s20 =>
    j_X4_freeHours_25 F x1 x2 r19 s20
  )
theorem f_X4_freeHours_e {F : Nat} {x1 : Int32} {x2 : Int32} {σ : Mem} : f_X4_freeHours F x1 x2 σ = (
  wt_lt (up2 σ 101 10 (0 : Int32)) fun s16 =>
  wt_bnd (f_X4_isLooker F x1 s16) fun r17 s18 =>
  if r17 = 0 then (
    j_X4_freeHours_25 F x1 x2 (-1 : Int32) s18
  ) else (
    wt_bnd (f_X4_wrongNumber F x2 (0 : Int32) (999 : Int32) s18) fun r19 s20 =>
    j_X4_freeHours_25 F x1 x2 r19 s20
  )
  ) := rfl
noncomputable def j_X4_cover_62 (F : Nat) (k21 : Int32 → Int32 → Mem → Option (Int32 × Mem)) (k31 : Int32 → Int32 → Mem → Option (Int32 × Mem)) (x1 : Int32) (x2 : Int32) (x3 : Int32) (x5 : Int32) (t0 : Int32) (t1 : Int32) (σ : Mem) : Option (Int32 × Mem) :=
  k31 (t0 ||| t1) (x5 + (1 : Int32)) σ
theorem j_X4_cover_62_e {F : Nat} {k21 : Int32 → Int32 → Mem → Option (Int32 × Mem)} {k31 : Int32 → Int32 → Mem → Option (Int32 × Mem)} {x1 : Int32} {x2 : Int32} {x3 : Int32} {x5 : Int32} {t0 : Int32} {t1 : Int32} {σ : Mem} : j_X4_cover_62 F k21 k31 x1 x2 x3 x5 t0 t1 σ = (
  k31 (t0 ||| t1) (x5 + (1 : Int32)) σ
  ) := rfl
noncomputable def j_X4_cover_93 (F : Nat) (k21 : Int32 → Int32 → Mem → Option (Int32 × Mem)) (x1 : Int32) (x3 : Int32) (t0 : Int32) (σ : Mem) : Option (Int32 × Mem) :=
  k21 t0 (x3 + (-1 : Int32)) σ
theorem j_X4_cover_93_e {F : Nat} {k21 : Int32 → Int32 → Mem → Option (Int32 × Mem)} {x1 : Int32} {x3 : Int32} {t0 : Int32} {σ : Mem} : j_X4_cover_93 F k21 x1 x3 t0 σ = (
  k21 t0 (x3 + (-1 : Int32)) σ
  ) := rfl
noncomputable def j_X4_cover_92 (F : Nat) (k21 : Int32 → Int32 → Mem → Option (Int32 × Mem)) (x1 : Int32) (x2 : Int32) (x3 : Int32) (σ : Mem) : Option (Int32 × Mem) :=
  j_X4_cover_93 F k21 x1 x3 x2 σ
theorem j_X4_cover_92_e {F : Nat} {k21 : Int32 → Int32 → Mem → Option (Int32 × Mem)} {x1 : Int32} {x2 : Int32} {x3 : Int32} {σ : Mem} : j_X4_cover_92 F k21 x1 x2 x3 σ = (
  j_X4_cover_93 F k21 x1 x3 x2 σ
  ) := rfl
noncomputable def lp_X4_cover_31 (F : Nat) (k21 : Int32 → Int32 → Mem → Option (Int32 × Mem)) (x1 : Int32) (x2 : Int32) (x3 : Int32) : Nat → Int32 → Int32 → Mem → Option (Int32 × Mem) := fun N => Nat.rec (motive := fun _ => Int32 → Int32 → Mem → Option (Int32 × Mem)) (fun _ _ _ => none) (fun _ ih x4 x5 σ =>
  if (σ 101 1) ≤ x5 then (
    if x4 = x1 then (
      wt_bnd (f_X4_onesOf F x3 σ) fun r1 s2 =>
      wt_bnd (f_X4_onesOf F x2 s2) fun r3 s4 =>
      if r3 < r1 then (
        j_X4_cover_92 F k21 x1 x2 x3 s4
      ) else (
        j_X4_cover_93 F k21 x1 x3 x3 s4
      )
    ) else (
      j_X4_cover_92 F k21 x1 x2 x3 σ
    )
  ) else (
    wt_bnd (f_X4_hasBit F x3 x5 σ) fun r5 s6 =>
    if r5 = 0 then (
      j_X4_cover_62 F k21 ih x1 x2 x3 x5 x4 (0 : Int32) s6
    ) else (
      wt_chk x5 6 <|
      j_X4_cover_62 F k21 ih x1 x2 x3 x5 x4 (s6 103 (Int32.toNatClampNeg x5)) s6
    )
  )
  ) N
theorem lp_X4_cover_31_s {F N : Nat} {k21 : Int32 → Int32 → Mem → Option (Int32 × Mem)} {x1 : Int32} {x2 : Int32} {x3 : Int32} {x4 : Int32} {x5 : Int32} {σ : Mem} : lp_X4_cover_31 F k21 x1 x2 x3 (N + 1) x4 x5 σ = (
  if (σ 101 1) ≤ x5 then (
    if x4 = x1 then (
      wt_bnd (f_X4_onesOf F x3 σ) fun r1 s2 =>
      wt_bnd (f_X4_onesOf F x2 s2) fun r3 s4 =>
      if r3 < r1 then (
        j_X4_cover_92 F k21 x1 x2 x3 s4
      ) else (
        j_X4_cover_93 F k21 x1 x3 x3 s4
      )
    ) else (
      j_X4_cover_92 F k21 x1 x2 x3 σ
    )
  ) else (
    wt_bnd (f_X4_hasBit F x3 x5 σ) fun r5 s6 =>
    if r5 = 0 then (
      j_X4_cover_62 F k21 (lp_X4_cover_31 F k21 x1 x2 x3 N) x1 x2 x3 x5 x4 (0 : Int32) s6
    ) else (
      wt_chk x5 6 <|
      j_X4_cover_62 F k21 (lp_X4_cover_31 F k21 x1 x2 x3 N) x1 x2 x3 x5 x4 (s6 103 (Int32.toNatClampNeg x5)) s6
    )
  )
  ) := rfl
noncomputable def lp_X4_cover_21 (F : Nat) (x1 : Int32) : Nat → Int32 → Int32 → Mem → Option (Int32 × Mem) := fun N => Nat.rec (motive := fun _ => Int32 → Int32 → Mem → Option (Int32 × Mem)) (fun _ _ _ => none) (fun _ ih x2 x3 σ =>
  if x3 < 0 then (
    some (x2, σ)
  ) else (
    lp_X4_cover_31 F ih x1 x2 x3 F (0 : Int32) (0 : Int32) σ
  )
  ) N
theorem lp_X4_cover_21_s {F N : Nat} {x1 : Int32} {x2 : Int32} {x3 : Int32} {σ : Mem} : lp_X4_cover_21 F x1 (N + 1) x2 x3 σ = (
  if x3 < 0 then (
    some (x2, σ)
  ) else (
    lp_X4_cover_31 F (lp_X4_cover_21 F x1 N) x1 x2 x3 F (0 : Int32) (0 : Int32) σ
  )
  ) := rfl
noncomputable def f_X4_cover (F : Nat) (σ : Mem) : Option (Int32 × Mem) :=
  wt_lt (up2 σ 101 10 (0 : Int32)) fun s8 =>
  wt_bnd (f_X4_allShown F s8) fun r9 s10 =>
  wt_lt (((1 : Int32) <<< ((s10 101 1) &&& 31)) - (1 : Int32)) fun z11 =>
  lp_X4_cover_21 F r9 F z11 z11 s10
theorem f_X4_cover_e {F : Nat} {σ : Mem} : f_X4_cover F σ = (
  wt_lt (up2 σ 101 10 (0 : Int32)) fun s8 =>
  wt_bnd (f_X4_allShown F s8) fun r9 s10 =>
  wt_lt (((1 : Int32) <<< ((s10 101 1) &&& 31)) - (1 : Int32)) fun z11 =>
  lp_X4_cover_21 F r9 F z11 z11 s10
  ) := rfl
noncomputable def j_X4_shown_49 (F : Nat) (k22 : Int32 → Int32 → Mem → Option (Int32 × Mem)) (x1 : Int32) (x3 : Int32) (t0 : Int32) (t1 : Int32) (σ : Mem) : Option (Int32 × Mem) :=
  k22 (t0 + t1) (x3 + (1 : Int32)) σ
theorem j_X4_shown_49_e {F : Nat} {k22 : Int32 → Int32 → Mem → Option (Int32 × Mem)} {x1 : Int32} {x3 : Int32} {t0 : Int32} {t1 : Int32} {σ : Mem} : j_X4_shown_49 F k22 x1 x3 t0 t1 σ = (
  k22 (t0 + t1) (x3 + (1 : Int32)) σ
  ) := rfl
noncomputable def lp_X4_shown_22 (F : Nat) (x1 : Int32) : Nat → Int32 → Int32 → Mem → Option (Int32 × Mem) := fun N => Nat.rec (motive := fun _ => Int32 → Int32 → Mem → Option (Int32 × Mem)) (fun _ _ _ => none) (fun _ ih x2 x3 σ =>
  if (σ 101 1) ≤ x3 then (
    some (x2, σ)
  ) else (
    wt_chk x3 6 <|
    wt_bnd (f_X4_hasBit F (σ 103 (Int32.toNatClampNeg x3)) x1 σ) fun r2 s3 =>
    if r2 = 0 then (
      j_X4_shown_49 F ih x1 x3 x2 (0 : Int32) s3
    ) else (
      j_X4_shown_49 F ih x1 x3 x2 (1 : Int32) s3
    )
  )
  ) N
theorem lp_X4_shown_22_s {F N : Nat} {x1 : Int32} {x2 : Int32} {x3 : Int32} {σ : Mem} : lp_X4_shown_22 F x1 (N + 1) x2 x3 σ = (
  if (σ 101 1) ≤ x3 then (
    some (x2, σ)
  ) else (
    wt_chk x3 6 <|
    wt_bnd (f_X4_hasBit F (σ 103 (Int32.toNatClampNeg x3)) x1 σ) fun r2 s3 =>
    if r2 = 0 then (
      j_X4_shown_49 F (lp_X4_shown_22 F x1 N) x1 x3 x2 (0 : Int32) s3
    ) else (
      j_X4_shown_49 F (lp_X4_shown_22 F x1 N) x1 x3 x2 (1 : Int32) s3
    )
  )
  ) := rfl
noncomputable def f_X4_shown (F : Nat) (x1 : Int32) (σ : Mem) : Option (Int32 × Mem) :=
  wt_lt (up2 σ 101 10 (0 : Int32)) fun s4 =>
  wt_bnd (f_X4_isView F x1 s4) fun r5 s6 =>
  if r5 = 0 then (
    wt_bnd (f_X4_refuse F (-1 : Int32) s6) fun r7 s8 =>
    some (r7, s8)
  ) else (
    lp_X4_shown_22 F x1 F (0 : Int32) (0 : Int32) s6
  )
theorem f_X4_shown_e {F : Nat} {x1 : Int32} {σ : Mem} : f_X4_shown F x1 σ = (
  wt_lt (up2 σ 101 10 (0 : Int32)) fun s4 =>
  wt_bnd (f_X4_isView F x1 s4) fun r5 s6 =>
  if r5 = 0 then (
    wt_bnd (f_X4_refuse F (-1 : Int32) s6) fun r7 s8 =>
    some (r7, s8)
  ) else (
    lp_X4_shown_22 F x1 F (0 : Int32) (0 : Int32) s6
  )
  ) := rfl
noncomputable def j_X4_walls_173 (F : Nat) (k62 : Int32 → Int32 → Int32 → Mem → Option (Int32 × Mem)) (k74 : Int32 → Int32 → Int32 → Mem → Option (Int32 × Mem)) (x1 : Int32) (x2 : Int32) (x3 : Int32) (x5 : Int32) (x6 : Int32) (x7 : Int32) (x8 : Int32) (x9 : Int32) (σ : Mem) : Option (Int32 × Mem) :=
  k74 x6 x7 (x9 + (1 : Int32)) σ
theorem j_X4_walls_173_e {F : Nat} {k62 : Int32 → Int32 → Int32 → Mem → Option (Int32 × Mem)} {k74 : Int32 → Int32 → Int32 → Mem → Option (Int32 × Mem)} {x1 : Int32} {x2 : Int32} {x3 : Int32} {x5 : Int32} {x6 : Int32} {x7 : Int32} {x8 : Int32} {x9 : Int32} {σ : Mem} : j_X4_walls_173 F k62 k74 x1 x2 x3 x5 x6 x7 x8 x9 σ = (
  k74 x6 x7 (x9 + (1 : Int32)) σ
  ) := rfl
noncomputable def j_X4_walls_171 (F : Nat) (k62 : Int32 → Int32 → Int32 → Mem → Option (Int32 × Mem)) (k74 : Int32 → Int32 → Int32 → Mem → Option (Int32 × Mem)) (x1 : Int32) (x2 : Int32) (x3 : Int32) (x5 : Int32) (x6 : Int32) (x8 : Int32) (x9 : Int32) (t0 : Int32) (σ : Mem) : Option (Int32 × Mem) :=
  j_X4_walls_173 F k62 k74 x1 x2 x3 x5 x6 t0 x8 x9 σ
theorem j_X4_walls_171_e {F : Nat} {k62 : Int32 → Int32 → Int32 → Mem → Option (Int32 × Mem)} {k74 : Int32 → Int32 → Int32 → Mem → Option (Int32 × Mem)} {x1 : Int32} {x2 : Int32} {x3 : Int32} {x5 : Int32} {x6 : Int32} {x8 : Int32} {x9 : Int32} {t0 : Int32} {σ : Mem} : j_X4_walls_171 F k62 k74 x1 x2 x3 x5 x6 x8 x9 t0 σ = (
  j_X4_walls_173 F k62 k74 x1 x2 x3 x5 x6 t0 x8 x9 σ
  ) := rfl
noncomputable def j_X4_walls_155 (F : Nat) (k62 : Int32 → Int32 → Int32 → Mem → Option (Int32 × Mem)) (k74 : Int32 → Int32 → Int32 → Mem → Option (Int32 × Mem)) (x1 : Int32) (x2 : Int32) (x3 : Int32) (x5 : Int32) (x7 : Int32) (x8 : Int32) (x9 : Int32) (x10 : Int32) (t0 : Int32) (σ : Mem) : Option (Int32 × Mem) :=
  if x10 ≤ x7 then (
    j_X4_walls_171 F k62 k74 x1 x2 x3 x5 t0 x8 x9 x7 σ
  ) else (
    j_X4_walls_171 F k62 k74 x1 x2 x3 x5 t0 x8 x9 x10 σ
  )
theorem j_X4_walls_155_e {F : Nat} {k62 : Int32 → Int32 → Int32 → Mem → Option (Int32 × Mem)} {k74 : Int32 → Int32 → Int32 → Mem → Option (Int32 × Mem)} {x1 : Int32} {x2 : Int32} {x3 : Int32} {x5 : Int32} {x7 : Int32} {x8 : Int32} {x9 : Int32} {x10 : Int32} {t0 : Int32} {σ : Mem} : j_X4_walls_155 F k62 k74 x1 x2 x3 x5 x7 x8 x9 x10 t0 σ = (
  if x10 ≤ x7 then (
    j_X4_walls_171 F k62 k74 x1 x2 x3 x5 t0 x8 x9 x7 σ
  ) else (
    j_X4_walls_171 F k62 k74 x1 x2 x3 x5 t0 x8 x9 x10 σ
  )
  ) := rfl
noncomputable def lp_X4_walls_74 (F : Nat) (k62 : Int32 → Int32 → Int32 → Mem → Option (Int32 × Mem)) (x1 : Int32) (x2 : Int32) (x3 : Int32) (x5 : Int32) (x8 : Int32) : Nat → Int32 → Int32 → Int32 → Mem → Option (Int32 × Mem) := fun N => Nat.rec (motive := fun _ => Int32 → Int32 → Int32 → Mem → Option (Int32 × Mem)) (fun _ _ _ _ => none) (fun _ ih x6 x7 x9 σ =>
  if (8 : Int32) ≤ x9 then (
    k62 x6 x7 (x8 + (1 : Int32)) σ
  ) else (
    wt_chk x8 6 <|
    wt_bnd (f_X4_hasBit F (σ 103 (Int32.toNatClampNeg x8)) x9 σ) fun r2 s3 =>
    if r2 = 0 then (
      j_X4_walls_173 F k62 ih x1 x2 x3 x5 x6 x7 x8 x9 s3
    ) else (
      wt_lt (up2 s3 103 (Int32.toNatClampNeg x8) ((s3 103 (Int32.toNatClampNeg x8)) ^^^ ((1 : Int32) <<< (x9 &&& 31)))) fun s4 =>
      wt_bnd (f_X4_worthAnew F x1 x2 s4) fun r5 s6 =>
      wt_lt (up2 s6 103 (Int32.toNatClampNeg x8) ((s6 103 (Int32.toNatClampNeg x8)) ^^^ ((1 : Int32) <<< (x9 &&& 31)))) fun s7 =>
      if (x5 - r5) ≤ x7 then (
        j_X4_walls_155 F k62 ih x1 x2 x3 x5 x7 x8 x9 (x5 - r5) x6 s7
      ) else (
        j_X4_walls_155 F k62 ih x1 x2 x3 x5 x7 x8 x9 (x5 - r5) (((10 : Int32) * x8) + x9) s7
      )
    )
  )
  ) N
theorem lp_X4_walls_74_s {F N : Nat} {k62 : Int32 → Int32 → Int32 → Mem → Option (Int32 × Mem)} {x1 : Int32} {x2 : Int32} {x3 : Int32} {x5 : Int32} {x8 : Int32} {x6 : Int32} {x7 : Int32} {x9 : Int32} {σ : Mem} : lp_X4_walls_74 F k62 x1 x2 x3 x5 x8 (N + 1) x6 x7 x9 σ = (
  if (8 : Int32) ≤ x9 then (
    k62 x6 x7 (x8 + (1 : Int32)) σ
  ) else (
    wt_chk x8 6 <|
    wt_bnd (f_X4_hasBit F (σ 103 (Int32.toNatClampNeg x8)) x9 σ) fun r2 s3 =>
    if r2 = 0 then (
      j_X4_walls_173 F k62 (lp_X4_walls_74 F k62 x1 x2 x3 x5 x8 N) x1 x2 x3 x5 x6 x7 x8 x9 s3
    ) else (
      wt_lt (up2 s3 103 (Int32.toNatClampNeg x8) ((s3 103 (Int32.toNatClampNeg x8)) ^^^ ((1 : Int32) <<< (x9 &&& 31)))) fun s4 =>
      wt_bnd (f_X4_worthAnew F x1 x2 s4) fun r5 s6 =>
      wt_lt (up2 s6 103 (Int32.toNatClampNeg x8) ((s6 103 (Int32.toNatClampNeg x8)) ^^^ ((1 : Int32) <<< (x9 &&& 31)))) fun s7 =>
      if (x5 - r5) ≤ x7 then (
        j_X4_walls_155 F k62 (lp_X4_walls_74 F k62 x1 x2 x3 x5 x8 N) x1 x2 x3 x5 x7 x8 x9 (x5 - r5) x6 s7
      ) else (
        j_X4_walls_155 F k62 (lp_X4_walls_74 F k62 x1 x2 x3 x5 x8 N) x1 x2 x3 x5 x7 x8 x9 (x5 - r5) (((10 : Int32) * x8) + x9) s7
      )
    )
  )
  ) := rfl
noncomputable def j_X4_walls_194 (F : Nat) (x6 : Int32) (σ : Mem) : Option (Int32 × Mem) :=
  some (x6, σ)
theorem j_X4_walls_194_e {F : Nat} {x6 : Int32} {σ : Mem} : j_X4_walls_194 F x6 σ = (
  some (x6, σ)
  ) := rfl
noncomputable def lp_X4_walls_62 (F : Nat) (x1 : Int32) (x2 : Int32) (x3 : Int32) (x5 : Int32) : Nat → Int32 → Int32 → Int32 → Mem → Option (Int32 × Mem) := fun N => Nat.rec (motive := fun _ => Int32 → Int32 → Int32 → Mem → Option (Int32 × Mem)) (fun _ _ _ _ => none) (fun _ ih x6 x7 x8 σ =>
  if (σ 101 1) ≤ x8 then (
    if x3 = 0 then (
      j_X4_walls_194 F x6 σ
    ) else (
      if 0 ≤ x6 then (
        some (x7, σ)
      ) else (
        j_X4_walls_194 F x6 σ
      )
    )
  ) else (
    lp_X4_walls_74 F ih x1 x2 x3 x5 x8 F x6 x7 (0 : Int32) σ
  )
  ) N
theorem lp_X4_walls_62_s {F N : Nat} {x1 : Int32} {x2 : Int32} {x3 : Int32} {x5 : Int32} {x6 : Int32} {x7 : Int32} {x8 : Int32} {σ : Mem} : lp_X4_walls_62 F x1 x2 x3 x5 (N + 1) x6 x7 x8 σ = (
  if (σ 101 1) ≤ x8 then (
    if x3 = 0 then (
      j_X4_walls_194 F x6 σ
    ) else (
      if 0 ≤ x6 then (
        some (x7, σ)
      ) else (
        j_X4_walls_194 F x6 σ
      )
    )
  ) else (
    lp_X4_walls_74 F (lp_X4_walls_62 F x1 x2 x3 x5 N) x1 x2 x3 x5 x8 F x6 x7 (0 : Int32) σ
  )
  ) := rfl
noncomputable def j_X4_walls_25 (F : Nat) (x1 : Int32) (x2 : Int32) (x3 : Int32) (t0 : Int32) (σ : Mem) : Option (Int32 × Mem) :=
  wt_bnd (f_X4_wrongBit F t0 x3 (1 : Int32) σ) fun r8 s9 =>
  if 0 ≤ r8 then (
    wt_bnd (f_X4_worthAnew F x1 x2 s9) fun r10 s11 =>
    lp_X4_walls_62 F x1 x2 x3 r10 F (-9 : Int32) (0 : Int32) (0 : Int32) s11
  ) else (
    wt_bnd (f_X4_refuse F r8 s9) fun r12 s13 =>
    some (r12, s13)
  )
theorem j_X4_walls_25_e {F : Nat} {x1 : Int32} {x2 : Int32} {x3 : Int32} {t0 : Int32} {σ : Mem} : j_X4_walls_25 F x1 x2 x3 t0 σ = (
  wt_bnd (f_X4_wrongBit F t0 x3 (1 : Int32) σ) fun r8 s9 =>
  if 0 ≤ r8 then (
    wt_bnd (f_X4_worthAnew F x1 x2 s9) fun r10 s11 =>
    lp_X4_walls_62 F x1 x2 x3 r10 F (-9 : Int32) (0 : Int32) (0 : Int32) s11
  ) else (
    wt_bnd (f_X4_refuse F r8 s9) fun r12 s13 =>
    some (r12, s13)
  )
  ) := rfl
noncomputable def f_X4_walls (F : Nat) (x1 : Int32) (x2 : Int32) (x3 : Int32) (σ : Mem) : Option (Int32 × Mem) :=
  wt_lt (up2 σ 101 10 (0 : Int32)) fun s14 =>
  wt_bnd (f_X4_isLooker F x1 s14) fun r15 s16 =>
  if r15 = 0 then (
    j_X4_walls_25 F x1 x2 x3 (-1 : Int32) s16
  ) else (
    wt_bnd (f_X4_wrongNumber F x2 (0 : Int32) (999 : Int32) s16) fun r17 s18 =>
    j_X4_walls_25 F x1 x2 x3 r17 s18
  )
theorem f_X4_walls_e {F : Nat} {x1 : Int32} {x2 : Int32} {x3 : Int32} {σ : Mem} : f_X4_walls F x1 x2 x3 σ = (
  wt_lt (up2 σ 101 10 (0 : Int32)) fun s14 =>
  wt_bnd (f_X4_isLooker F x1 s14) fun r15 s16 =>
  if r15 = 0 then (
    j_X4_walls_25 F x1 x2 x3 (-1 : Int32) s16
  ) else (
    wt_bnd (f_X4_wrongNumber F x2 (0 : Int32) (999 : Int32) s16) fun r17 s18 =>
    j_X4_walls_25 F x1 x2 x3 r17 s18
  )
  ) := rfl
noncomputable def lp_X4_divisor_6 (F : Nat) : Nat → Int64 → Int64 → Mem → Option (Int64 × Mem) := fun N => Nat.rec (motive := fun _ => Int64 → Int64 → Mem → Option (Int64 × Mem)) (fun _ _ _ => none) (fun _ ih y4 y6 σ =>
  if (lg_cmp y6 (0 : Int64)) = 0 then (
    some (y4, σ)
  ) else (
    wt_nzl y6 <|
    ih y6 (y4 - y4 / y6 * y6) σ
  )
  ) N
theorem lp_X4_divisor_6_s {F N : Nat} {y4 : Int64} {y6 : Int64} {σ : Mem} : lp_X4_divisor_6 F (N + 1) y4 y6 σ = (
  if (lg_cmp y6 (0 : Int64)) = 0 then (
    some (y4, σ)
  ) else (
    wt_nzl y6 <|
    (lp_X4_divisor_6 F N) y6 (y4 - y4 / y6 * y6) σ
  )
  ) := rfl
noncomputable def f_X4_divisor (F : Nat) (y0 : Int64) (y2 : Int64) (σ : Mem) : Option (Int64 × Mem) :=
  lp_X4_divisor_6 F F y0 y2 σ
theorem f_X4_divisor_e {F : Nat} {y0 : Int64} {y2 : Int64} {σ : Mem} : f_X4_divisor F y0 y2 σ = (
  lp_X4_divisor_6 F F y0 y2 σ
  ) := rfl
noncomputable def f_X4_partOf (F : Nat) (y0 : Int64) (y2 : Int64) (x4 : Int32) (σ : Mem) : Option (Int64 × Mem) :=
  if (lg_cmp y0 (0 : Int64)) = 0 then (
    some ((Int32.toInt64 x4), σ)
  ) else (
    wt_bnd (f_X4_divisor F y0 y2 σ) fun r1 s2 =>
    if x4 = 0 then (
      wt_nzl r1 <|
      some ((y0 / r1), s2)
    ) else (
      wt_nzl r1 <|
      some ((y2 / r1), s2)
    )
  )
theorem f_X4_partOf_e {F : Nat} {y0 : Int64} {y2 : Int64} {x4 : Int32} {σ : Mem} : f_X4_partOf F y0 y2 x4 σ = (
  if (lg_cmp y0 (0 : Int64)) = 0 then (
    some ((Int32.toInt64 x4), σ)
  ) else (
    wt_bnd (f_X4_divisor F y0 y2 σ) fun r1 s2 =>
    if x4 = 0 then (
      wt_nzl r1 <|
      some ((y0 / r1), s2)
    ) else (
      wt_nzl r1 <|
      some ((y2 / r1), s2)
    )
  )
  ) := rfl
noncomputable def lp_X4_share_55 (F : Nat) (x1 : Int32) (x2 : Int32) (x3 : Int32) : Nat → Int64 → Int32 → Mem → Option (Int64 × Mem) := fun N => Nat.rec (motive := fun _ => Int64 → Int32 → Mem → Option (Int64 × Mem)) (fun _ _ _ => none) (fun _ ih y5 x7 σ =>
  if (σ 101 3) ≤ x7 then (
    wt_chk (((8 : Int32) * x1) + x2) 40 <|
    wt_bnd (f_X4_partOf F (Int32.toInt64 (σ 107 (Int32.toNatClampNeg (((8 : Int32) * x1) + x2)))) y5 x3 σ) fun r2 s3 =>
    some (r2, s3)
  ) else (
    wt_chk (((8 : Int32) * x7) + x2) 40 <|
    wt_lt (y5 + (Int32.toInt64 (σ 107 (Int32.toNatClampNeg (((8 : Int32) * x7) + x2))))) fun z5 =>
    ih z5 (x7 + (1 : Int32)) σ
  )
  ) N
theorem lp_X4_share_55_s {F N : Nat} {x1 : Int32} {x2 : Int32} {x3 : Int32} {y5 : Int64} {x7 : Int32} {σ : Mem} : lp_X4_share_55 F x1 x2 x3 (N + 1) y5 x7 σ = (
  if (σ 101 3) ≤ x7 then (
    wt_chk (((8 : Int32) * x1) + x2) 40 <|
    wt_bnd (f_X4_partOf F (Int32.toInt64 (σ 107 (Int32.toNatClampNeg (((8 : Int32) * x1) + x2)))) y5 x3 σ) fun r2 s3 =>
    some (r2, s3)
  ) else (
    wt_chk (((8 : Int32) * x7) + x2) 40 <|
    wt_lt (y5 + (Int32.toInt64 (σ 107 (Int32.toNatClampNeg (((8 : Int32) * x7) + x2))))) fun z5 =>
    (lp_X4_share_55 F x1 x2 x3 N) z5 (x7 + (1 : Int32)) σ
  )
  ) := rfl
noncomputable def j_X4_share_30 (F : Nat) (x1 : Int32) (x2 : Int32) (x3 : Int32) (t0 : Int32) (σ : Mem) : Option (Int64 × Mem) :=
  if 0 ≤ t0 then (
    lp_X4_share_55 F x1 x2 x3 F (0 : Int64) (0 : Int32) σ
  ) else (
    wt_bnd (f_X4_refuse F t0 σ) fun r6 s7 =>
    some (((4000000000000000000 : Int64) - (Int32.toInt64 r6)), s7)
  )
theorem j_X4_share_30_e {F : Nat} {x1 : Int32} {x2 : Int32} {x3 : Int32} {t0 : Int32} {σ : Mem} : j_X4_share_30 F x1 x2 x3 t0 σ = (
  if 0 ≤ t0 then (
    lp_X4_share_55 F x1 x2 x3 F (0 : Int64) (0 : Int32) σ
  ) else (
    wt_bnd (f_X4_refuse F t0 σ) fun r6 s7 =>
    some (((4000000000000000000 : Int64) - (Int32.toInt64 r6)), s7)
  )
  ) := rfl
noncomputable def j_X4_share_29 (F : Nat) (x1 : Int32) (x2 : Int32) (x3 : Int32) (σ : Mem) : Option (Int64 × Mem) :=
  j_X4_share_30 F x1 x2 x3 (-1 : Int32) σ
theorem j_X4_share_29_e {F : Nat} {x1 : Int32} {x2 : Int32} {x3 : Int32} {σ : Mem} : j_X4_share_29 F x1 x2 x3 σ = (
  j_X4_share_30 F x1 x2 x3 (-1 : Int32) σ
  ) := rfl
noncomputable def f_X4_share (F : Nat) (x1 : Int32) (x2 : Int32) (x3 : Int32) (σ : Mem) : Option (Int64 × Mem) :=
  wt_lt (up2 σ 101 10 (0 : Int32)) fun s8 =>
  wt_bnd (f_X4_isLooker F x1 s8) fun r9 s10 =>
  if r9 = 0 then (
    j_X4_share_29 F x1 x2 x3 s10
  ) else (
    wt_bnd (f_X4_isView F x2 s10) fun r11 s12 =>
    if r11 = 0 then (
      j_X4_share_29 F x1 x2 x3 s12
    ) else (
      wt_bnd (f_X4_wrongBit F (0 : Int32) x3 (1 : Int32) s12) fun r13 s14 =>
      j_X4_share_30 F x1 x2 x3 r13 s14
    )
  )
theorem f_X4_share_e {F : Nat} {x1 : Int32} {x2 : Int32} {x3 : Int32} {σ : Mem} : f_X4_share F x1 x2 x3 σ = (
  wt_lt (up2 σ 101 10 (0 : Int32)) fun s8 =>
  wt_bnd (f_X4_isLooker F x1 s8) fun r9 s10 =>
  if r9 = 0 then (
    j_X4_share_29 F x1 x2 x3 s10
  ) else (
    wt_bnd (f_X4_isView F x2 s10) fun r11 s12 =>
    if r11 = 0 then (
      j_X4_share_29 F x1 x2 x3 s12
    ) else (
      wt_bnd (f_X4_wrongBit F (0 : Int32) x3 (1 : Int32) s12) fun r13 s14 =>
      j_X4_share_30 F x1 x2 x3 r13 s14
    )
  )
  ) := rfl
noncomputable def j_X4_areResting_97 (F : Nat) (k36 : Int32 → Int32 → Mem → Option (Int32 × Mem)) (x1 : Int32) (x2 : Int32) (x3 : Int32) (x5 : Int32) (t0 : Int32) (σ : Mem) : Option (Int32 × Mem) :=
  k36 t0 (x5 + (1 : Int32)) σ
theorem j_X4_areResting_97_e {F : Nat} {k36 : Int32 → Int32 → Mem → Option (Int32 × Mem)} {x1 : Int32} {x2 : Int32} {x3 : Int32} {x5 : Int32} {t0 : Int32} {σ : Mem} : j_X4_areResting_97 F k36 x1 x2 x3 x5 t0 σ = (
  k36 t0 (x5 + (1 : Int32)) σ
  ) := rfl
noncomputable def j_X4_areResting_96 (F : Nat) (k36 : Int32 → Int32 → Mem → Option (Int32 × Mem)) (x1 : Int32) (x2 : Int32) (x3 : Int32) (x5 : Int32) (σ : Mem) : Option (Int32 × Mem) :=
  j_X4_areResting_97 F k36 x1 x2 x3 x5 (0 : Int32) σ
theorem j_X4_areResting_96_e {F : Nat} {k36 : Int32 → Int32 → Mem → Option (Int32 × Mem)} {x1 : Int32} {x2 : Int32} {x3 : Int32} {x5 : Int32} {σ : Mem} : j_X4_areResting_96 F k36 x1 x2 x3 x5 σ = (
  j_X4_areResting_97 F k36 x1 x2 x3 x5 (0 : Int32) σ
  ) := rfl
noncomputable def j_X4_areResting_105 (F : Nat) (x4 : Int32) (σ : Mem) : Option (Int32 × Mem) :=
  wt_bz x4 <|
  some (x4, σ)
theorem j_X4_areResting_105_e {F : Nat} {x4 : Int32} {σ : Mem} : j_X4_areResting_105 F x4 σ = (
  wt_bz x4 <|
  some (x4, σ)
  ) := rfl
noncomputable def lp_X4_areResting_36 (F : Nat) (x1 : Int32) (x2 : Int32) (x3 : Int32) : Nat → Int32 → Int32 → Mem → Option (Int32 × Mem) := fun N => Nat.rec (motive := fun _ => Int32 → Int32 → Mem → Option (Int32 × Mem)) (fun _ _ _ => none) (fun _ ih x4 x5 σ =>
  if (σ 101 1) ≤ x5 then (
    j_X4_areResting_105 F x4 σ
  ) else (
    if x4 = 0 then (
      j_X4_areResting_105 F x4 σ
    ) else (
      wt_chk (((6 : Int32) * x5) + x3) 36 <|
      wt_chk x1 36 <|
      if (σ 119 (Int32.toNatClampNeg x1)) < (σ 119 (Int32.toNatClampNeg (((6 : Int32) * x5) + x3))) then (
        j_X4_areResting_96 F ih x1 x2 x3 x5 σ
      ) else (
        wt_chk (((6 : Int32) * x2) + x5) 36 <|
        if (σ 120 (Int32.toNatClampNeg x1)) < (σ 120 (Int32.toNatClampNeg (((6 : Int32) * x2) + x5))) then (
          j_X4_areResting_96 F ih x1 x2 x3 x5 σ
        ) else (
          j_X4_areResting_97 F ih x1 x2 x3 x5 (1 : Int32) σ
        )
      )
    )
  )
  ) N
theorem lp_X4_areResting_36_s {F N : Nat} {x1 : Int32} {x2 : Int32} {x3 : Int32} {x4 : Int32} {x5 : Int32} {σ : Mem} : lp_X4_areResting_36 F x1 x2 x3 (N + 1) x4 x5 σ = (
  if (σ 101 1) ≤ x5 then (
    j_X4_areResting_105 F x4 σ
  ) else (
    if x4 = 0 then (
      j_X4_areResting_105 F x4 σ
    ) else (
      wt_chk (((6 : Int32) * x5) + x3) 36 <|
      wt_chk x1 36 <|
      if (σ 119 (Int32.toNatClampNeg x1)) < (σ 119 (Int32.toNatClampNeg (((6 : Int32) * x5) + x3))) then (
        j_X4_areResting_96 F (lp_X4_areResting_36 F x1 x2 x3 N) x1 x2 x3 x5 σ
      ) else (
        wt_chk (((6 : Int32) * x2) + x5) 36 <|
        if (σ 120 (Int32.toNatClampNeg x1)) < (σ 120 (Int32.toNatClampNeg (((6 : Int32) * x2) + x5))) then (
          j_X4_areResting_96 F (lp_X4_areResting_36 F x1 x2 x3 N) x1 x2 x3 x5 σ
        ) else (
          j_X4_areResting_97 F (lp_X4_areResting_36 F x1 x2 x3 N) x1 x2 x3 x5 (1 : Int32) σ
        )
      )
    )
  )
  ) := rfl
noncomputable def j_X4_areResting_31 (F : Nat) (x1 : Int32) (x2 : Int32) (x3 : Int32) (t0 : Int32) (σ : Mem) : Option (Int32 × Mem) :=
  lp_X4_areResting_36 F x1 x2 x3 F t0 (0 : Int32) σ
theorem j_X4_areResting_31_e {F : Nat} {x1 : Int32} {x2 : Int32} {x3 : Int32} {t0 : Int32} {σ : Mem} : j_X4_areResting_31 F x1 x2 x3 t0 σ = (
  lp_X4_areResting_36 F x1 x2 x3 F t0 (0 : Int32) σ
  ) := rfl
noncomputable def j_X4_areResting_30 (F : Nat) (x1 : Int32) (x2 : Int32) (x3 : Int32) (σ : Mem) : Option (Int32 × Mem) :=
  j_X4_areResting_31 F x1 x2 x3 (0 : Int32) σ
theorem j_X4_areResting_30_e {F : Nat} {x1 : Int32} {x2 : Int32} {x3 : Int32} {σ : Mem} : j_X4_areResting_30 F x1 x2 x3 σ = (
  j_X4_areResting_31 F x1 x2 x3 (0 : Int32) σ
  ) := rfl
noncomputable def f_X4_areResting (F : Nat) (x1 : Int32) (σ : Mem) : Option (Int32 × Mem) :=
  wt_lt (x1 - x1 / (6 : Int32) * (6 : Int32)) fun z4 =>
  if (σ 101 1) ≤ (x1 / (6 : Int32)) then (
    j_X4_areResting_30 F x1 (x1 / (6 : Int32)) z4 σ
  ) else (
    if (σ 101 1) ≤ z4 then (
      j_X4_areResting_30 F x1 (x1 / (6 : Int32)) z4 σ
    ) else (
      j_X4_areResting_31 F x1 (x1 / (6 : Int32)) z4 (1 : Int32) σ
    )
  )
theorem f_X4_areResting_e {F : Nat} {x1 : Int32} {σ : Mem} : f_X4_areResting F x1 σ = (
  wt_lt (x1 - x1 / (6 : Int32) * (6 : Int32)) fun z4 =>
  if (σ 101 1) ≤ (x1 / (6 : Int32)) then (
    j_X4_areResting_30 F x1 (x1 / (6 : Int32)) z4 σ
  ) else (
    if (σ 101 1) ≤ z4 then (
      j_X4_areResting_30 F x1 (x1 / (6 : Int32)) z4 σ
    ) else (
      j_X4_areResting_31 F x1 (x1 / (6 : Int32)) z4 (1 : Int32) σ
    )
  )
  ) := rfl
noncomputable def lp_X4_two_89 (F : Nat) (k77 : Int32 → Mem → Option (Int32 × Mem)) (x1 : Int32) (x2 : Int32) (x3 : Int32) (x4 : Int32) (x6 : Int32) (x7 : Int32) (x8 : Int32) : Nat → Int32 → Mem → Option (Int32 × Mem) := fun N => Nat.rec (motive := fun _ => Int32 → Mem → Option (Int32 × Mem)) (fun _ _ => none) (fun _ ih x9 σ =>
  if (σ 101 1) ≤ x9 then (
    k77 (x8 + (1 : Int32)) σ
  ) else (
    wt_chk (((24 : Int32) * x1) + x3) 120 <|
    wt_lt (up2 σ 106 (Int32.toNatClampNeg (((24 : Int32) * x1) + x3)) x8) fun s2 =>
    wt_chk (((24 : Int32) * x2) + x3) 120 <|
    wt_lt (up2 s2 106 (Int32.toNatClampNeg (((24 : Int32) * x2) + x3)) x9) fun s4 =>
    wt_bnd (f_X4_worthAnew F x1 x4 s4) fun r5 s6 =>
    wt_chk (((6 : Int32) * x8) + x9) 36 <|
    wt_lt (up2 s6 119 (Int32.toNatClampNeg (((6 : Int32) * x8) + x9)) r5) fun s8 =>
    wt_bnd (f_X4_worthIn F x2 x4 s8) fun r9 s10 =>
    wt_lt (up2 s10 120 (Int32.toNatClampNeg (((6 : Int32) * x8) + x9)) r9) fun s11 =>
    ih (x9 + (1 : Int32)) s11
  )
  ) N
theorem lp_X4_two_89_s {F N : Nat} {k77 : Int32 → Mem → Option (Int32 × Mem)} {x1 : Int32} {x2 : Int32} {x3 : Int32} {x4 : Int32} {x6 : Int32} {x7 : Int32} {x8 : Int32} {x9 : Int32} {σ : Mem} : lp_X4_two_89 F k77 x1 x2 x3 x4 x6 x7 x8 (N + 1) x9 σ = (
  if (σ 101 1) ≤ x9 then (
    k77 (x8 + (1 : Int32)) σ
  ) else (
    wt_chk (((24 : Int32) * x1) + x3) 120 <|
    wt_lt (up2 σ 106 (Int32.toNatClampNeg (((24 : Int32) * x1) + x3)) x8) fun s2 =>
    wt_chk (((24 : Int32) * x2) + x3) 120 <|
    wt_lt (up2 s2 106 (Int32.toNatClampNeg (((24 : Int32) * x2) + x3)) x9) fun s4 =>
    wt_bnd (f_X4_worthAnew F x1 x4 s4) fun r5 s6 =>
    wt_chk (((6 : Int32) * x8) + x9) 36 <|
    wt_lt (up2 s6 119 (Int32.toNatClampNeg (((6 : Int32) * x8) + x9)) r5) fun s8 =>
    wt_bnd (f_X4_worthIn F x2 x4 s8) fun r9 s10 =>
    wt_lt (up2 s10 120 (Int32.toNatClampNeg (((6 : Int32) * x8) + x9)) r9) fun s11 =>
    (lp_X4_two_89 F k77 x1 x2 x3 x4 x6 x7 x8 N) (x9 + (1 : Int32)) s11
  )
  ) := rfl
noncomputable def lp_X4_two_205 (F : Nat) : Nat → Int32 → Mem → Option (Int32 × Mem) := fun N => Nat.rec (motive := fun _ => Int32 → Mem → Option (Int32 × Mem)) (fun _ _ => none) (fun _ ih x8 σ =>
  if (36 : Int32) ≤ x8 then (
    some ((-9 : Int32), σ)
  ) else (
    wt_bnd (f_X4_areResting F x8 σ) fun r12 s13 =>
    if r12 = 0 then (
      ih (x8 + (1 : Int32)) s13
    ) else (
      some ((((10 : Int32) * (x8 / (6 : Int32))) + (x8 - x8 / (6 : Int32) * (6 : Int32))), s13)
    )
  )
  ) N
theorem lp_X4_two_205_s {F N : Nat} {x8 : Int32} {σ : Mem} : lp_X4_two_205 F (N + 1) x8 σ = (
  if (36 : Int32) ≤ x8 then (
    some ((-9 : Int32), σ)
  ) else (
    wt_bnd (f_X4_areResting F x8 σ) fun r12 s13 =>
    if r12 = 0 then (
      (lp_X4_two_205 F N) (x8 + (1 : Int32)) s13
    ) else (
      some ((((10 : Int32) * (x8 / (6 : Int32))) + (x8 - x8 / (6 : Int32) * (6 : Int32))), s13)
    )
  )
  ) := rfl
noncomputable def lp_X4_two_77 (F : Nat) (x1 : Int32) (x2 : Int32) (x3 : Int32) (x4 : Int32) (x6 : Int32) (x7 : Int32) : Nat → Int32 → Mem → Option (Int32 × Mem) := fun N => Nat.rec (motive := fun _ => Int32 → Mem → Option (Int32 × Mem)) (fun _ _ => none) (fun _ ih x8 σ =>
  if (σ 101 1) ≤ x8 then (
    wt_chk (((24 : Int32) * x1) + x3) 120 <|
    wt_lt (up2 σ 106 (Int32.toNatClampNeg (((24 : Int32) * x1) + x3)) x6) fun s15 =>
    wt_chk (((24 : Int32) * x2) + x3) 120 <|
    wt_lt (up2 s15 106 (Int32.toNatClampNeg (((24 : Int32) * x2) + x3)) x7) fun s17 =>
    lp_X4_two_205 F F (0 : Int32) s17
  ) else (
    lp_X4_two_89 F ih x1 x2 x3 x4 x6 x7 x8 F (0 : Int32) σ
  )
  ) N
theorem lp_X4_two_77_s {F N : Nat} {x1 : Int32} {x2 : Int32} {x3 : Int32} {x4 : Int32} {x6 : Int32} {x7 : Int32} {x8 : Int32} {σ : Mem} : lp_X4_two_77 F x1 x2 x3 x4 x6 x7 (N + 1) x8 σ = (
  if (σ 101 1) ≤ x8 then (
    wt_chk (((24 : Int32) * x1) + x3) 120 <|
    wt_lt (up2 σ 106 (Int32.toNatClampNeg (((24 : Int32) * x1) + x3)) x6) fun s15 =>
    wt_chk (((24 : Int32) * x2) + x3) 120 <|
    wt_lt (up2 s15 106 (Int32.toNatClampNeg (((24 : Int32) * x2) + x3)) x7) fun s17 =>
    lp_X4_two_205 F F (0 : Int32) s17
  ) else (
    lp_X4_two_89 F (lp_X4_two_77 F x1 x2 x3 x4 x6 x7 N) x1 x2 x3 x4 x6 x7 x8 F (0 : Int32) σ
  )
  ) := rfl
noncomputable def j_X4_two_34 (F : Nat) (x1 : Int32) (x2 : Int32) (x3 : Int32) (x4 : Int32) (t0 : Int32) (σ : Mem) : Option (Int32 × Mem) :=
  if 0 ≤ t0 then (
    wt_chk (((24 : Int32) * x1) + x3) 120 <|
    wt_lt (σ 106 (Int32.toNatClampNeg (((24 : Int32) * x1) + x3))) fun z19 =>
    wt_chk (((24 : Int32) * x2) + x3) 120 <|
    wt_lt (σ 106 (Int32.toNatClampNeg (((24 : Int32) * x2) + x3))) fun z21 =>
    lp_X4_two_77 F x1 x2 x3 x4 z19 z21 F (0 : Int32) σ
  ) else (
    wt_bnd (f_X4_refuse F t0 σ) fun r22 s23 =>
    some (r22, s23)
  )
theorem j_X4_two_34_e {F : Nat} {x1 : Int32} {x2 : Int32} {x3 : Int32} {x4 : Int32} {t0 : Int32} {σ : Mem} : j_X4_two_34 F x1 x2 x3 x4 t0 σ = (
  if 0 ≤ t0 then (
    wt_chk (((24 : Int32) * x1) + x3) 120 <|
    wt_lt (σ 106 (Int32.toNatClampNeg (((24 : Int32) * x1) + x3))) fun z19 =>
    wt_chk (((24 : Int32) * x2) + x3) 120 <|
    wt_lt (σ 106 (Int32.toNatClampNeg (((24 : Int32) * x2) + x3))) fun z21 =>
    lp_X4_two_77 F x1 x2 x3 x4 z19 z21 F (0 : Int32) σ
  ) else (
    wt_bnd (f_X4_refuse F t0 σ) fun r22 s23 =>
    some (r22, s23)
  )
  ) := rfl
noncomputable def j_X4_two_33 (F : Nat) (x1 : Int32) (x2 : Int32) (x3 : Int32) (x4 : Int32) (σ : Mem) : Option (Int32 × Mem) :=
  j_X4_two_34 F x1 x2 x3 x4 (-1 : Int32) σ
theorem j_X4_two_33_e {F : Nat} {x1 : Int32} {x2 : Int32} {x3 : Int32} {x4 : Int32} {σ : Mem} : j_X4_two_33 F x1 x2 x3 x4 σ = (
  j_X4_two_34 F x1 x2 x3 x4 (-1 : Int32) σ
  ) := rfl
noncomputable def f_X4_two (F : Nat) (x1 : Int32) (x2 : Int32) (x3 : Int32) (x4 : Int32) (σ : Mem) : Option (Int32 × Mem) :=
  wt_lt (up2 σ 101 10 (0 : Int32)) fun s24 =>
  wt_bnd (f_X4_areTwo F x1 x2 s24) fun r25 s26 =>
  if r25 = 0 then (
    j_X4_two_33 F x1 x2 x3 x4 s26
  ) else (
    wt_bnd (f_X4_isHour F x3 s26) fun r27 s28 =>
    if r27 = 0 then (
      j_X4_two_33 F x1 x2 x3 x4 s28
    ) else (
      wt_bnd (f_X4_wrongNumber F x4 (0 : Int32) (999 : Int32) s28) fun r29 s30 =>
      j_X4_two_34 F x1 x2 x3 x4 r29 s30
    )
  )
theorem f_X4_two_e {F : Nat} {x1 : Int32} {x2 : Int32} {x3 : Int32} {x4 : Int32} {σ : Mem} : f_X4_two F x1 x2 x3 x4 σ = (
  wt_lt (up2 σ 101 10 (0 : Int32)) fun s24 =>
  wt_bnd (f_X4_areTwo F x1 x2 s24) fun r25 s26 =>
  if r25 = 0 then (
    j_X4_two_33 F x1 x2 x3 x4 s26
  ) else (
    wt_bnd (f_X4_isHour F x3 s26) fun r27 s28 =>
    if r27 = 0 then (
      j_X4_two_33 F x1 x2 x3 x4 s28
    ) else (
      wt_bnd (f_X4_wrongNumber F x4 (0 : Int32) (999 : Int32) s28) fun r29 s30 =>
      j_X4_two_34 F x1 x2 x3 x4 r29 s30
    )
  )
  ) := rfl
noncomputable def j_X4_isRow_54 (F : Nat) (k8 : Int32 → Int32 → Mem → Option (Int32 × Mem)) (x1 : Int32) (x3 : Int32) (t0 : Int32) (σ : Mem) : Option (Int32 × Mem) :=
  k8 t0 (x3 + (1 : Int32)) σ
theorem j_X4_isRow_54_e {F : Nat} {k8 : Int32 → Int32 → Mem → Option (Int32 × Mem)} {x1 : Int32} {x3 : Int32} {t0 : Int32} {σ : Mem} : j_X4_isRow_54 F k8 x1 x3 t0 σ = (
  k8 t0 (x3 + (1 : Int32)) σ
  ) := rfl
noncomputable def j_X4_isRow_53 (F : Nat) (k8 : Int32 → Int32 → Mem → Option (Int32 × Mem)) (x1 : Int32) (x3 : Int32) (σ : Mem) : Option (Int32 × Mem) :=
  j_X4_isRow_54 F k8 x1 x3 (0 : Int32) σ
theorem j_X4_isRow_53_e {F : Nat} {k8 : Int32 → Int32 → Mem → Option (Int32 × Mem)} {x1 : Int32} {x3 : Int32} {σ : Mem} : j_X4_isRow_53 F k8 x1 x3 σ = (
  j_X4_isRow_54 F k8 x1 x3 (0 : Int32) σ
  ) := rfl
noncomputable def j_X4_isRow_46 (F : Nat) (k8 : Int32 → Int32 → Mem → Option (Int32 × Mem)) (x1 : Int32) (x3 : Int32) (t0 : Int32) (t1 : Int32) (σ : Mem) : Option (Int32 × Mem) :=
  if t0 = t1 then (
    j_X4_isRow_54 F k8 x1 x3 (1 : Int32) σ
  ) else (
    j_X4_isRow_53 F k8 x1 x3 σ
  )
theorem j_X4_isRow_46_e {F : Nat} {k8 : Int32 → Int32 → Mem → Option (Int32 × Mem)} {x1 : Int32} {x3 : Int32} {t0 : Int32} {t1 : Int32} {σ : Mem} : j_X4_isRow_46 F k8 x1 x3 t0 t1 σ = (
  if t0 = t1 then (
    j_X4_isRow_54 F k8 x1 x3 (1 : Int32) σ
  ) else (
    j_X4_isRow_53 F k8 x1 x3 σ
  )
  ) := rfl
noncomputable def lp_X4_isRow_8 (F : Nat) (x1 : Int32) : Nat → Int32 → Int32 → Mem → Option (Int32 × Mem) := fun N => Nat.rec (motive := fun _ => Int32 → Int32 → Mem → Option (Int32 × Mem)) (fun _ _ _ => none) (fun _ ih x2 x3 σ =>
  if (σ 101 34) ≤ x3 then (
    wt_bz x2 <|
    some (x2, σ)
  ) else (
    wt_bnd (f_X4_ownerIn F x3 x1 σ) fun r1 s2 =>
    if x2 = 0 then (
      j_X4_isRow_53 F ih x1 x3 s2
    ) else (
      wt_chk x3 12 <|
      if 0 ≤ r1 then (
        j_X4_isRow_46 F ih x1 x3 (s2 121 (Int32.toNatClampNeg x3)) r1 s2
      ) else (
        j_X4_isRow_46 F ih x1 x3 (s2 121 (Int32.toNatClampNeg x3)) (99 : Int32) s2
      )
    )
  )
  ) N
theorem lp_X4_isRow_8_s {F N : Nat} {x1 : Int32} {x2 : Int32} {x3 : Int32} {σ : Mem} : lp_X4_isRow_8 F x1 (N + 1) x2 x3 σ = (
  if (σ 101 34) ≤ x3 then (
    wt_bz x2 <|
    some (x2, σ)
  ) else (
    wt_bnd (f_X4_ownerIn F x3 x1 σ) fun r1 s2 =>
    if x2 = 0 then (
      j_X4_isRow_53 F (lp_X4_isRow_8 F x1 N) x1 x3 s2
    ) else (
      wt_chk x3 12 <|
      if 0 ≤ r1 then (
        j_X4_isRow_46 F (lp_X4_isRow_8 F x1 N) x1 x3 (s2 121 (Int32.toNatClampNeg x3)) r1 s2
      ) else (
        j_X4_isRow_46 F (lp_X4_isRow_8 F x1 N) x1 x3 (s2 121 (Int32.toNatClampNeg x3)) (99 : Int32) s2
      )
    )
  )
  ) := rfl
noncomputable def f_X4_isRow (F : Nat) (x1 : Int32) (σ : Mem) : Option (Int32 × Mem) :=
  wt_bnd (f_X4_layBrings F σ) fun r4 s5 =>
  lp_X4_isRow_8 F x1 F (1 : Int32) (0 : Int32) s5
theorem f_X4_isRow_e {F : Nat} {x1 : Int32} {σ : Mem} : f_X4_isRow F x1 σ = (
  wt_bnd (f_X4_layBrings F σ) fun r4 s5 =>
  lp_X4_isRow_8 F x1 F (1 : Int32) (0 : Int32) s5
  ) := rfl
noncomputable def j_X4_whichLaw_56 (F : Nat) (k30 : Int32 → Int32 → Mem → Option (Int32 × Mem)) (x1 : Int32) (x3 : Int32) (t0 : Int32) (t1 : Int32) (σ : Mem) : Option (Int32 × Mem) :=
  k30 (t0 ||| t1) (x3 + (1 : Int32)) σ
theorem j_X4_whichLaw_56_e {F : Nat} {k30 : Int32 → Int32 → Mem → Option (Int32 × Mem)} {x1 : Int32} {x3 : Int32} {t0 : Int32} {t1 : Int32} {σ : Mem} : j_X4_whichLaw_56 F k30 x1 x3 t0 t1 σ = (
  k30 (t0 ||| t1) (x3 + (1 : Int32)) σ
  ) := rfl
noncomputable def lp_X4_whichLaw_30 (F : Nat) (x1 : Int32) : Nat → Int32 → Int32 → Mem → Option (Int32 × Mem) := fun N => Nat.rec (motive := fun _ => Int32 → Int32 → Mem → Option (Int32 × Mem)) (fun _ _ _ => none) (fun _ ih x2 x3 σ =>
  if (3 : Int32) ≤ x3 then (
    wt_lt (up2 σ 101 8 x1) fun s1 =>
    some (x2, s1)
  ) else (
    wt_lt (up2 σ 101 8 x3) fun s2 =>
    wt_bnd (f_X4_isRow F (0 : Int32) s2) fun r3 s4 =>
    if r3 = 0 then (
      j_X4_whichLaw_56 F ih x1 x3 x2 (0 : Int32) s4
    ) else (
      j_X4_whichLaw_56 F ih x1 x3 x2 ((1 : Int32) <<< (x3 &&& 31)) s4
    )
  )
  ) N
theorem lp_X4_whichLaw_30_s {F N : Nat} {x1 : Int32} {x2 : Int32} {x3 : Int32} {σ : Mem} : lp_X4_whichLaw_30 F x1 (N + 1) x2 x3 σ = (
  if (3 : Int32) ≤ x3 then (
    wt_lt (up2 σ 101 8 x1) fun s1 =>
    some (x2, s1)
  ) else (
    wt_lt (up2 σ 101 8 x3) fun s2 =>
    wt_bnd (f_X4_isRow F (0 : Int32) s2) fun r3 s4 =>
    if r3 = 0 then (
      j_X4_whichLaw_56 F (lp_X4_whichLaw_30 F x1 N) x1 x3 x2 (0 : Int32) s4
    ) else (
      j_X4_whichLaw_56 F (lp_X4_whichLaw_30 F x1 N) x1 x3 x2 ((1 : Int32) <<< (x3 &&& 31)) s4
    )
  )
  ) := rfl
noncomputable def f_X4_whichLaw (F : Nat) (σ : Mem) : Option (Int32 × Mem) :=
  wt_lt (up2 σ 101 10 (0 : Int32)) fun s5 =>
  if (s5 101 34) ≤ (8 : Int32) then (
    lp_X4_whichLaw_30 F (s5 101 8) F (0 : Int32) (0 : Int32) s5
  ) else (
    wt_bnd (f_X4_refuse F (-3 : Int32) s5) fun r6 s7 =>
    some (r6, s7)
  )
theorem f_X4_whichLaw_e {F : Nat} {σ : Mem} : f_X4_whichLaw F σ = (
  wt_lt (up2 σ 101 10 (0 : Int32)) fun s5 =>
  if (s5 101 34) ≤ (8 : Int32) then (
    lp_X4_whichLaw_30 F (s5 101 8) F (0 : Int32) (0 : Int32) s5
  ) else (
    wt_bnd (f_X4_refuse F (-3 : Int32) s5) fun r6 s7 =>
    some (r6, s7)
  )
  ) := rfl
noncomputable def j_X4_whichKind_154 (F : Nat) (k77 : Int32 → Int32 → Mem → Option (Int32 × Mem)) (x1 : Int32) (x2 : Int32) (x3 : Int32) (x6 : Int32) (t0 : Int32) (t1 : Int32) (σ : Mem) : Option (Int32 × Mem) :=
  k77 (t0 ||| t1) (x6 + (1 : Int32)) σ
theorem j_X4_whichKind_154_e {F : Nat} {k77 : Int32 → Int32 → Mem → Option (Int32 × Mem)} {x1 : Int32} {x2 : Int32} {x3 : Int32} {x6 : Int32} {t0 : Int32} {t1 : Int32} {σ : Mem} : j_X4_whichKind_154 F k77 x1 x2 x3 x6 t0 t1 σ = (
  k77 (t0 ||| t1) (x6 + (1 : Int32)) σ
  ) := rfl
noncomputable def j_X4_whichKind_135 (F : Nat) (k77 : Int32 → Int32 → Mem → Option (Int32 × Mem)) (x1 : Int32) (x2 : Int32) (x3 : Int32) (x5 : Int32) (x6 : Int32) (t1 : Int32) (t2 : Int32) (σ : Mem) : Option (Int32 × Mem) :=
  wt_chk t1 5 <|
  wt_lt (up2 σ 105 (Int32.toNatClampNeg t1) t2) fun s2 =>
  wt_bnd (f_X4_isRow F x2 s2) fun r3 s4 =>
  if r3 = 0 then (
    j_X4_whichKind_154 F k77 x1 x2 x3 x6 x5 (0 : Int32) s4
  ) else (
    j_X4_whichKind_154 F k77 x1 x2 x3 x6 x5 ((1 : Int32) <<< (x6 &&& 31)) s4
  )
theorem j_X4_whichKind_135_e {F : Nat} {k77 : Int32 → Int32 → Mem → Option (Int32 × Mem)} {x1 : Int32} {x2 : Int32} {x3 : Int32} {x5 : Int32} {x6 : Int32} {t1 : Int32} {t2 : Int32} {σ : Mem} : j_X4_whichKind_135 F k77 x1 x2 x3 x5 x6 t1 t2 σ = (
  wt_chk t1 5 <|
  wt_lt (up2 σ 105 (Int32.toNatClampNeg t1) t2) fun s2 =>
  wt_bnd (f_X4_isRow F x2 s2) fun r3 s4 =>
  if r3 = 0 then (
    j_X4_whichKind_154 F k77 x1 x2 x3 x6 x5 (0 : Int32) s4
  ) else (
    j_X4_whichKind_154 F k77 x1 x2 x3 x6 x5 ((1 : Int32) <<< (x6 &&& 31)) s4
  )
  ) := rfl
noncomputable def j_X4_whichKind_113 (F : Nat) (k77 : Int32 → Int32 → Mem → Option (Int32 × Mem)) (x1 : Int32) (x2 : Int32) (x3 : Int32) (x5 : Int32) (x6 : Int32) (t1 : Int32) (t2 : Int32) (σ : Mem) : Option (Int32 × Mem) :=
  wt_chk t1 5 <|
  wt_lt (up2 σ 104 (Int32.toNatClampNeg t1) t2) fun s6 =>
  if x3 = (1 : Int32) then (
    j_X4_whichKind_135 F k77 x1 x2 x3 x5 x6 x1 x6 s6
  ) else (
    wt_chk x1 5 <|
    j_X4_whichKind_135 F k77 x1 x2 x3 x5 x6 x1 (s6 105 (Int32.toNatClampNeg x1)) s6
  )
theorem j_X4_whichKind_113_e {F : Nat} {k77 : Int32 → Int32 → Mem → Option (Int32 × Mem)} {x1 : Int32} {x2 : Int32} {x3 : Int32} {x5 : Int32} {x6 : Int32} {t1 : Int32} {t2 : Int32} {σ : Mem} : j_X4_whichKind_113 F k77 x1 x2 x3 x5 x6 t1 t2 σ = (
  wt_chk t1 5 <|
  wt_lt (up2 σ 104 (Int32.toNatClampNeg t1) t2) fun s6 =>
  if x3 = (1 : Int32) then (
    j_X4_whichKind_135 F k77 x1 x2 x3 x5 x6 x1 x6 s6
  ) else (
    wt_chk x1 5 <|
    j_X4_whichKind_135 F k77 x1 x2 x3 x5 x6 x1 (s6 105 (Int32.toNatClampNeg x1)) s6
  )
  ) := rfl
noncomputable def j_X4_whichKind_90 (F : Nat) (k77 : Int32 → Int32 → Mem → Option (Int32 × Mem)) (x1 : Int32) (x2 : Int32) (x3 : Int32) (x5 : Int32) (x6 : Int32) (t0 : Int32) (t1 : Int32) (σ : Mem) : Option (Int32 × Mem) :=
  if t1 ≤ t0 then (
    wt_bnd (f_X4_again F σ) fun r8 s9 =>
    some (x5, s9)
  ) else (
    if x3 = 0 then (
      j_X4_whichKind_113 F k77 x1 x2 x3 x5 x6 x1 x6 σ
    ) else (
      wt_chk x1 5 <|
      j_X4_whichKind_113 F k77 x1 x2 x3 x5 x6 x1 (σ 104 (Int32.toNatClampNeg x1)) σ
    )
  )
theorem j_X4_whichKind_90_e {F : Nat} {k77 : Int32 → Int32 → Mem → Option (Int32 × Mem)} {x1 : Int32} {x2 : Int32} {x3 : Int32} {x5 : Int32} {x6 : Int32} {t0 : Int32} {t1 : Int32} {σ : Mem} : j_X4_whichKind_90 F k77 x1 x2 x3 x5 x6 t0 t1 σ = (
  if t1 ≤ t0 then (
    wt_bnd (f_X4_again F σ) fun r8 s9 =>
    some (x5, s9)
  ) else (
    if x3 = 0 then (
      j_X4_whichKind_113 F k77 x1 x2 x3 x5 x6 x1 x6 σ
    ) else (
      wt_chk x1 5 <|
      j_X4_whichKind_113 F k77 x1 x2 x3 x5 x6 x1 (σ 104 (Int32.toNatClampNeg x1)) σ
    )
  )
  ) := rfl
noncomputable def lp_X4_whichKind_77 (F : Nat) (x1 : Int32) (x2 : Int32) (x3 : Int32) : Nat → Int32 → Int32 → Mem → Option (Int32 × Mem) := fun N => Nat.rec (motive := fun _ => Int32 → Int32 → Mem → Option (Int32 × Mem)) (fun _ _ _ => none) (fun _ ih x5 x6 σ =>
  if x3 = 0 then (
    j_X4_whichKind_90 F ih x1 x2 x3 x5 x6 x6 (6 : Int32) σ
  ) else (
    j_X4_whichKind_90 F ih x1 x2 x3 x5 x6 x6 (10 : Int32) σ
  )
  ) N
theorem lp_X4_whichKind_77_s {F N : Nat} {x1 : Int32} {x2 : Int32} {x3 : Int32} {x5 : Int32} {x6 : Int32} {σ : Mem} : lp_X4_whichKind_77 F x1 x2 x3 (N + 1) x5 x6 σ = (
  if x3 = 0 then (
    j_X4_whichKind_90 F (lp_X4_whichKind_77 F x1 x2 x3 N) x1 x2 x3 x5 x6 x6 (6 : Int32) σ
  ) else (
    j_X4_whichKind_90 F (lp_X4_whichKind_77 F x1 x2 x3 N) x1 x2 x3 x5 x6 x6 (10 : Int32) σ
  )
  ) := rfl
noncomputable def j_X4_whichKind_53 (F : Nat) (x1 : Int32) (x2 : Int32) (x3 : Int32) (t0 : Int32) (σ : Mem) : Option (Int32 × Mem) :=
  if 0 ≤ t0 then (
    wt_bnd (f_X4_think F σ) fun r11 s12 =>
    lp_X4_whichKind_77 F x1 x2 x3 F (0 : Int32) (0 : Int32) s12
  ) else (
    wt_bnd (f_X4_refuse F t0 σ) fun r13 s14 =>
    some (r13, s14)
  )
theorem j_X4_whichKind_53_e {F : Nat} {x1 : Int32} {x2 : Int32} {x3 : Int32} {t0 : Int32} {σ : Mem} : j_X4_whichKind_53 F x1 x2 x3 t0 σ = (
  if 0 ≤ t0 then (
    wt_bnd (f_X4_think F σ) fun r11 s12 =>
    lp_X4_whichKind_77 F x1 x2 x3 F (0 : Int32) (0 : Int32) s12
  ) else (
    wt_bnd (f_X4_refuse F t0 σ) fun r13 s14 =>
    some (r13, s14)
  )
  ) := rfl
noncomputable def j_X4_whichKind_51 (F : Nat) (x1 : Int32) (x2 : Int32) (x3 : Int32) (x4 : Int32) (σ : Mem) : Option (Int32 × Mem) :=
  j_X4_whichKind_53 F x1 x2 x3 x4 σ
theorem j_X4_whichKind_51_e {F : Nat} {x1 : Int32} {x2 : Int32} {x3 : Int32} {x4 : Int32} {σ : Mem} : j_X4_whichKind_51 F x1 x2 x3 x4 σ = (
  j_X4_whichKind_53 F x1 x2 x3 x4 σ
  ) := rfl
noncomputable def j_X4_whichKind_25 (F : Nat) (x1 : Int32) (x2 : Int32) (x3 : Int32) (t0 : Int32) (σ : Mem) : Option (Int32 × Mem) :=
  wt_bnd (f_X4_wrongBit F t0 x3 (1 : Int32) σ) fun r15 s16 =>
  if r15 = 0 then (
    if (s16 101 34) ≤ (8 : Int32) then (
      j_X4_whichKind_51 F x1 x2 x3 r15 s16
    ) else (
      j_X4_whichKind_53 F x1 x2 x3 (-3 : Int32) s16
    )
  ) else (
    j_X4_whichKind_51 F x1 x2 x3 r15 s16
  )
theorem j_X4_whichKind_25_e {F : Nat} {x1 : Int32} {x2 : Int32} {x3 : Int32} {t0 : Int32} {σ : Mem} : j_X4_whichKind_25 F x1 x2 x3 t0 σ = (
  wt_bnd (f_X4_wrongBit F t0 x3 (1 : Int32) σ) fun r15 s16 =>
  if r15 = 0 then (
    if (s16 101 34) ≤ (8 : Int32) then (
      j_X4_whichKind_51 F x1 x2 x3 r15 s16
    ) else (
      j_X4_whichKind_53 F x1 x2 x3 (-3 : Int32) s16
    )
  ) else (
    j_X4_whichKind_51 F x1 x2 x3 r15 s16
  )
  ) := rfl
noncomputable def f_X4_whichKind (F : Nat) (x1 : Int32) (x2 : Int32) (x3 : Int32) (σ : Mem) : Option (Int32 × Mem) :=
  wt_lt (up2 σ 101 10 (0 : Int32)) fun s17 =>
  wt_bnd (f_X4_isLooker F x1 s17) fun r18 s19 =>
  if r18 = 0 then (
    j_X4_whichKind_25 F x1 x2 x3 (-1 : Int32) s19
  ) else (
    wt_bnd (f_X4_wrongNumber F x2 (0 : Int32) (999 : Int32) s19) fun r20 s21 =>
    j_X4_whichKind_25 F x1 x2 x3 r20 s21
  )
theorem f_X4_whichKind_e {F : Nat} {x1 : Int32} {x2 : Int32} {x3 : Int32} {σ : Mem} : f_X4_whichKind F x1 x2 x3 σ = (
  wt_lt (up2 σ 101 10 (0 : Int32)) fun s17 =>
  wt_bnd (f_X4_isLooker F x1 s17) fun r18 s19 =>
  if r18 = 0 then (
    j_X4_whichKind_25 F x1 x2 x3 (-1 : Int32) s19
  ) else (
    wt_bnd (f_X4_wrongNumber F x2 (0 : Int32) (999 : Int32) s19) fun r20 s21 =>
    j_X4_whichKind_25 F x1 x2 x3 r20 s21
  )
  ) := rfl
noncomputable def j_X4_ill_167 (F : Nat) (k126 : Int64 → Int32 → Mem → Option (Int64 × Mem)) (k140 : Int64 → Int32 → Mem → Option (Int64 × Mem)) (x1 : Int32) (x2 : Int32) (x3 : Int32) (x4 : Int32) (x5 : Int32) (y7 : Int64) (y9 : Int64) (x11 : Int32) (x14 : Int32) (t0 : Int64) (t1 : Int64) (σ : Mem) : Option (Int64 × Mem) :=
  k140 (t0 * t1) (x14 + (1 : Int32)) σ
theorem j_X4_ill_167_e {F : Nat} {k126 : Int64 → Int32 → Mem → Option (Int64 × Mem)} {k140 : Int64 → Int32 → Mem → Option (Int64 × Mem)} {x1 : Int32} {x2 : Int32} {x3 : Int32} {x4 : Int32} {x5 : Int32} {y7 : Int64} {y9 : Int64} {x11 : Int32} {x14 : Int32} {t0 : Int64} {t1 : Int64} {σ : Mem} : j_X4_ill_167 F k126 k140 x1 x2 x3 x4 x5 y7 y9 x11 x14 t0 t1 σ = (
  k140 (t0 * t1) (x14 + (1 : Int32)) σ
  ) := rfl
noncomputable def j_X4_ill_237 (F : Nat) (k126 : Int64 → Int32 → Mem → Option (Int64 × Mem)) (x1 : Int32) (x2 : Int32) (x3 : Int32) (x4 : Int32) (x5 : Int32) (y9 : Int64) (x11 : Int32) (t0 : Int64) (t1 : Int64) (σ : Mem) : Option (Int64 × Mem) :=
  k126 (t0 + t1) (x11 + (1 : Int32)) σ
theorem j_X4_ill_237_e {F : Nat} {k126 : Int64 → Int32 → Mem → Option (Int64 × Mem)} {x1 : Int32} {x2 : Int32} {x3 : Int32} {x4 : Int32} {x5 : Int32} {y9 : Int64} {x11 : Int32} {t0 : Int64} {t1 : Int64} {σ : Mem} : j_X4_ill_237 F k126 x1 x2 x3 x4 x5 y9 x11 t0 t1 σ = (
  k126 (t0 + t1) (x11 + (1 : Int32)) σ
  ) := rfl
noncomputable def lp_X4_ill_140 (F : Nat) (k126 : Int64 → Int32 → Mem → Option (Int64 × Mem)) (x1 : Int32) (x2 : Int32) (x3 : Int32) (x4 : Int32) (x5 : Int32) (y7 : Int64) (y9 : Int64) (x11 : Int32) : Nat → Int64 → Int32 → Mem → Option (Int64 × Mem) := fun N => Nat.rec (motive := fun _ => Int64 → Int32 → Mem → Option (Int64 × Mem)) (fun _ _ _ => none) (fun _ ih y12 x14 σ =>
  if x3 ≤ x14 then (
    wt_bnd (f_X4_ownerIn F x2 x3 σ) fun r1 s2 =>
    wt_chk (((8 : Int32) * x1) + x2) 40 <|
    wt_bnd (f_X4_onesOf F x11 s2) fun r4 s5 =>
    wt_bnd (f_X4_held F ((s2 107 (Int32.toNatClampNeg (((8 : Int32) * x1) + x2))) + (r4 * (s5 109 (Int32.toNatClampNeg (((8 : Int32) * x1) + x2))))) s5) fun r6 s7 =>
    wt_chk x1 5 <|
    wt_lt (up2 s7 110 (Int32.toNatClampNeg x1) r6) fun s9 =>
    wt_bnd (f_X4_ownerLooked F s9) fun r10 s11 =>
    if r10 = x1 then (
      j_X4_ill_237 F k126 x1 x2 x3 x4 x5 y9 x11 y7 y12 s11
    ) else (
      j_X4_ill_237 F k126 x1 x2 x3 x4 x5 y9 x11 y7 (0 : Int64) s11
    )
  ) else (
    wt_bnd (f_X4_hasBit F x11 x14 σ) fun r12 s13 =>
    if r12 = 0 then (
      j_X4_ill_167 F k126 ih x1 x2 x3 x4 x5 y7 y9 x11 x14 y12 (1 : Int64) s13
    ) else (
      j_X4_ill_167 F k126 ih x1 x2 x3 x4 x5 y7 y9 x11 x14 y12 (Int32.toInt64 (x4 - (1 : Int32))) s13
    )
  )
  ) N
theorem lp_X4_ill_140_s {F N : Nat} {k126 : Int64 → Int32 → Mem → Option (Int64 × Mem)} {x1 : Int32} {x2 : Int32} {x3 : Int32} {x4 : Int32} {x5 : Int32} {y7 : Int64} {y9 : Int64} {x11 : Int32} {y12 : Int64} {x14 : Int32} {σ : Mem} : lp_X4_ill_140 F k126 x1 x2 x3 x4 x5 y7 y9 x11 (N + 1) y12 x14 σ = (
  if x3 ≤ x14 then (
    wt_bnd (f_X4_ownerIn F x2 x3 σ) fun r1 s2 =>
    wt_chk (((8 : Int32) * x1) + x2) 40 <|
    wt_bnd (f_X4_onesOf F x11 s2) fun r4 s5 =>
    wt_bnd (f_X4_held F ((s2 107 (Int32.toNatClampNeg (((8 : Int32) * x1) + x2))) + (r4 * (s5 109 (Int32.toNatClampNeg (((8 : Int32) * x1) + x2))))) s5) fun r6 s7 =>
    wt_chk x1 5 <|
    wt_lt (up2 s7 110 (Int32.toNatClampNeg x1) r6) fun s9 =>
    wt_bnd (f_X4_ownerLooked F s9) fun r10 s11 =>
    if r10 = x1 then (
      j_X4_ill_237 F k126 x1 x2 x3 x4 x5 y9 x11 y7 y12 s11
    ) else (
      j_X4_ill_237 F k126 x1 x2 x3 x4 x5 y9 x11 y7 (0 : Int64) s11
    )
  ) else (
    wt_bnd (f_X4_hasBit F x11 x14 σ) fun r12 s13 =>
    if r12 = 0 then (
      j_X4_ill_167 F k126 (lp_X4_ill_140 F k126 x1 x2 x3 x4 x5 y7 y9 x11 N) x1 x2 x3 x4 x5 y7 y9 x11 x14 y12 (1 : Int64) s13
    ) else (
      j_X4_ill_167 F k126 (lp_X4_ill_140 F k126 x1 x2 x3 x4 x5 y7 y9 x11 N) x1 x2 x3 x4 x5 y7 y9 x11 x14 y12 (Int32.toInt64 (x4 - (1 : Int32))) s13
    )
  )
  ) := rfl
noncomputable def lp_X4_ill_126 (F : Nat) (x1 : Int32) (x2 : Int32) (x3 : Int32) (x4 : Int32) (x5 : Int32) (y9 : Int64) : Nat → Int64 → Int32 → Mem → Option (Int64 × Mem) := fun N => Nat.rec (motive := fun _ => Int64 → Int32 → Mem → Option (Int64 × Mem)) (fun _ _ _ => none) (fun _ ih y7 x11 σ =>
  if ((1 : Int32) <<< (x3 &&& 31)) ≤ x11 then (
    wt_bnd (f_X4_partOf F y7 y9 x5 σ) fun r14 s15 =>
    some (r14, s15)
  ) else (
    lp_X4_ill_140 F ih x1 x2 x3 x4 x5 y7 y9 x11 F (1 : Int64) (0 : Int32) σ
  )
  ) N
theorem lp_X4_ill_126_s {F N : Nat} {x1 : Int32} {x2 : Int32} {x3 : Int32} {x4 : Int32} {x5 : Int32} {y9 : Int64} {y7 : Int64} {x11 : Int32} {σ : Mem} : lp_X4_ill_126 F x1 x2 x3 x4 x5 y9 (N + 1) y7 x11 σ = (
  if ((1 : Int32) <<< (x3 &&& 31)) ≤ x11 then (
    wt_bnd (f_X4_partOf F y7 y9 x5 σ) fun r14 s15 =>
    some (r14, s15)
  ) else (
    lp_X4_ill_140 F (lp_X4_ill_126 F x1 x2 x3 x4 x5 y9 N) x1 x2 x3 x4 x5 y7 y9 x11 F (1 : Int64) (0 : Int32) σ
  )
  ) := rfl
noncomputable def lp_X4_ill_103 (F : Nat) (x1 : Int32) (x2 : Int32) (x3 : Int32) (x4 : Int32) (x5 : Int32) (y7 : Int64) : Nat → Int64 → Int32 → Mem → Option (Int64 × Mem) := fun N => Nat.rec (motive := fun _ => Int64 → Int32 → Mem → Option (Int64 × Mem)) (fun _ _ _ => none) (fun _ ih y9 x11 σ =>
  if x3 ≤ x11 then (
    lp_X4_ill_126 F x1 x2 x3 x4 x5 y9 F y7 (0 : Int32) σ
  ) else (
    wt_lt (y9 * (Int32.toInt64 x4)) fun z16 =>
    ih z16 (x11 + (1 : Int32)) σ
  )
  ) N
theorem lp_X4_ill_103_s {F N : Nat} {x1 : Int32} {x2 : Int32} {x3 : Int32} {x4 : Int32} {x5 : Int32} {y7 : Int64} {y9 : Int64} {x11 : Int32} {σ : Mem} : lp_X4_ill_103 F x1 x2 x3 x4 x5 y7 (N + 1) y9 x11 σ = (
  if x3 ≤ x11 then (
    lp_X4_ill_126 F x1 x2 x3 x4 x5 y9 F y7 (0 : Int32) σ
  ) else (
    wt_lt (y9 * (Int32.toInt64 x4)) fun z16 =>
    (lp_X4_ill_103 F x1 x2 x3 x4 x5 y7 N) z16 (x11 + (1 : Int32)) σ
  )
  ) := rfl
noncomputable def j_X4_ill_63 (F : Nat) (x1 : Int32) (x2 : Int32) (x3 : Int32) (x4 : Int32) (x5 : Int32) (x6 : Int32) (σ : Mem) : Option (Int64 × Mem) :=
  wt_bnd (f_X4_wrongBit F x6 x5 (1 : Int32) σ) fun r17 s18 =>
  if 0 ≤ r17 then (
    wt_bnd (f_X4_layBrings F s18) fun r19 s20 =>
    lp_X4_ill_103 F x1 x2 x3 x4 x5 (0 : Int64) F (1 : Int64) (0 : Int32) s20
  ) else (
    wt_bnd (f_X4_refuse F r17 s18) fun r21 s22 =>
    some (((4000000000000000000 : Int64) - (Int32.toInt64 r21)), s22)
  )
theorem j_X4_ill_63_e {F : Nat} {x1 : Int32} {x2 : Int32} {x3 : Int32} {x4 : Int32} {x5 : Int32} {x6 : Int32} {σ : Mem} : j_X4_ill_63 F x1 x2 x3 x4 x5 x6 σ = (
  wt_bnd (f_X4_wrongBit F x6 x5 (1 : Int32) σ) fun r17 s18 =>
  if 0 ≤ r17 then (
    wt_bnd (f_X4_layBrings F s18) fun r19 s20 =>
    lp_X4_ill_103 F x1 x2 x3 x4 x5 (0 : Int64) F (1 : Int64) (0 : Int32) s20
  ) else (
    wt_bnd (f_X4_refuse F r17 s18) fun r21 s22 =>
    some (((4000000000000000000 : Int64) - (Int32.toInt64 r21)), s22)
  )
  ) := rfl
noncomputable def j_X4_ill_23 (F : Nat) (x1 : Int32) (x2 : Int32) (x3 : Int32) (x4 : Int32) (x5 : Int32) (σ : Mem) : Option (Int64 × Mem) :=
  j_X4_ill_63 F x1 x2 x3 x4 x5 (-1 : Int32) σ
theorem j_X4_ill_23_e {F : Nat} {x1 : Int32} {x2 : Int32} {x3 : Int32} {x4 : Int32} {x5 : Int32} {σ : Mem} : j_X4_ill_23 F x1 x2 x3 x4 x5 σ = (
  j_X4_ill_63 F x1 x2 x3 x4 x5 (-1 : Int32) σ
  ) := rfl
noncomputable def j_X4_ill_39 (F : Nat) (x1 : Int32) (x2 : Int32) (x3 : Int32) (x4 : Int32) (x5 : Int32) (σ : Mem) : Option (Int64 × Mem) :=
  j_X4_ill_63 F x1 x2 x3 x4 x5 (-4 : Int32) σ
theorem j_X4_ill_39_e {F : Nat} {x1 : Int32} {x2 : Int32} {x3 : Int32} {x4 : Int32} {x5 : Int32} {σ : Mem} : j_X4_ill_39 F x1 x2 x3 x4 x5 σ = (
  j_X4_ill_63 F x1 x2 x3 x4 x5 (-4 : Int32) σ
  ) := rfl
noncomputable def j_X4_ill_59 (F : Nat) (x1 : Int32) (x2 : Int32) (x3 : Int32) (x4 : Int32) (x5 : Int32) (σ : Mem) : Option (Int64 × Mem) :=
  j_X4_ill_63 F x1 x2 x3 x4 x5 (-6 : Int32) σ
theorem j_X4_ill_59_e {F : Nat} {x1 : Int32} {x2 : Int32} {x3 : Int32} {x4 : Int32} {x5 : Int32} {σ : Mem} : j_X4_ill_59 F x1 x2 x3 x4 x5 σ = (
  j_X4_ill_63 F x1 x2 x3 x4 x5 (-6 : Int32) σ
  ) := rfl
noncomputable def f_X4_ill (F : Nat) (x1 : Int32) (x2 : Int32) (x3 : Int32) (x4 : Int32) (x5 : Int32) (σ : Mem) : Option (Int64 × Mem) :=
  wt_lt (up2 σ 101 10 (0 : Int32)) fun s23 =>
  wt_bnd (f_X4_isLooker F x1 s23) fun r24 s25 =>
  if r24 = 0 then (
    j_X4_ill_23 F x1 x2 x3 x4 x5 s25
  ) else (
    wt_bnd (f_X4_isView F x2 s25) fun r26 s27 =>
    if r26 = 0 then (
      j_X4_ill_23 F x1 x2 x3 x4 x5 s27
    ) else (
      if x3 < 0 then (
        j_X4_ill_39 F x1 x2 x3 x4 x5 s27
      ) else (
        if (2 : Int32) ≤ x4 then (
          if (8 : Int32) < x3 then (
            j_X4_ill_59 F x1 x2 x3 x4 x5 s27
          ) else (
            if x4 ≤ (20 : Int32) then (
              j_X4_ill_63 F x1 x2 x3 x4 x5 (0 : Int32) s27
            ) else (
              j_X4_ill_59 F x1 x2 x3 x4 x5 s27
            )
          )
        ) else (
          j_X4_ill_39 F x1 x2 x3 x4 x5 s27
        )
      )
    )
  )
theorem f_X4_ill_e {F : Nat} {x1 : Int32} {x2 : Int32} {x3 : Int32} {x4 : Int32} {x5 : Int32} {σ : Mem} : f_X4_ill F x1 x2 x3 x4 x5 σ = (
  wt_lt (up2 σ 101 10 (0 : Int32)) fun s23 =>
  wt_bnd (f_X4_isLooker F x1 s23) fun r24 s25 =>
  if r24 = 0 then (
    j_X4_ill_23 F x1 x2 x3 x4 x5 s25
  ) else (
    wt_bnd (f_X4_isView F x2 s25) fun r26 s27 =>
    if r26 = 0 then (
      j_X4_ill_23 F x1 x2 x3 x4 x5 s27
    ) else (
      if x3 < 0 then (
        j_X4_ill_39 F x1 x2 x3 x4 x5 s27
      ) else (
        if (2 : Int32) ≤ x4 then (
          if (8 : Int32) < x3 then (
            j_X4_ill_59 F x1 x2 x3 x4 x5 s27
          ) else (
            if x4 ≤ (20 : Int32) then (
              j_X4_ill_63 F x1 x2 x3 x4 x5 (0 : Int32) s27
            ) else (
              j_X4_ill_59 F x1 x2 x3 x4 x5 s27
            )
          )
        ) else (
          j_X4_ill_39 F x1 x2 x3 x4 x5 s27
        )
      )
    )
  )
  ) := rfl
noncomputable def j_X4_standing_32 (F : Nat) (k4 : Int32 → Int32 → Mem → Option (Int32 × Mem)) (x1 : Int32) (x3 : Int32) (t0 : Int32) (t1 : Int32) (σ : Mem) : Option (Int32 × Mem) :=
  k4 (t0 + t1) (x3 + (1 : Int32)) σ
theorem j_X4_standing_32_e {F : Nat} {k4 : Int32 → Int32 → Mem → Option (Int32 × Mem)} {x1 : Int32} {x3 : Int32} {t0 : Int32} {t1 : Int32} {σ : Mem} : j_X4_standing_32 F k4 x1 x3 t0 t1 σ = (
  k4 (t0 + t1) (x3 + (1 : Int32)) σ
  ) := rfl
noncomputable def lp_X4_standing_4 (F : Nat) (x1 : Int32) : Nat → Int32 → Int32 → Mem → Option (Int32 × Mem) := fun N => Nat.rec (motive := fun _ => Int32 → Int32 → Mem → Option (Int32 × Mem)) (fun _ _ _ => none) (fun _ ih x2 x3 σ =>
  if (σ 101 3) ≤ x3 then (
    some (x2, σ)
  ) else (
    wt_chk (((24 : Int32) * x3) + x1) 120 <|
    if (σ 106 (Int32.toNatClampNeg (((24 : Int32) * x3) + x1))) < 0 then (
      j_X4_standing_32 F ih x1 x3 x2 (0 : Int32) σ
    ) else (
      j_X4_standing_32 F ih x1 x3 x2 (1 : Int32) σ
    )
  )
  ) N
theorem lp_X4_standing_4_s {F N : Nat} {x1 : Int32} {x2 : Int32} {x3 : Int32} {σ : Mem} : lp_X4_standing_4 F x1 (N + 1) x2 x3 σ = (
  if (σ 101 3) ≤ x3 then (
    some (x2, σ)
  ) else (
    wt_chk (((24 : Int32) * x3) + x1) 120 <|
    if (σ 106 (Int32.toNatClampNeg (((24 : Int32) * x3) + x1))) < 0 then (
      j_X4_standing_32 F (lp_X4_standing_4 F x1 N) x1 x3 x2 (0 : Int32) σ
    ) else (
      j_X4_standing_32 F (lp_X4_standing_4 F x1 N) x1 x3 x2 (1 : Int32) σ
    )
  )
  ) := rfl
noncomputable def f_X4_standing (F : Nat) (x1 : Int32) (σ : Mem) : Option (Int32 × Mem) :=
  lp_X4_standing_4 F x1 F (0 : Int32) (0 : Int32) σ
theorem f_X4_standing_e {F : Nat} {x1 : Int32} {σ : Mem} : f_X4_standing F x1 σ = (
  lp_X4_standing_4 F x1 F (0 : Int32) (0 : Int32) σ
  ) := rfl
noncomputable def j_X4_busy_50 (F : Nat) (k26 : Int32 → Int32 → Mem → Option (Int32 × Mem)) (x1 : Int32) (x3 : Int32) (t0 : Int32) (σ : Mem) : Option (Int32 × Mem) :=
  k26 t0 (x3 + (1 : Int32)) σ
theorem j_X4_busy_50_e {F : Nat} {k26 : Int32 → Int32 → Mem → Option (Int32 × Mem)} {x1 : Int32} {x3 : Int32} {t0 : Int32} {σ : Mem} : j_X4_busy_50 F k26 x1 x3 t0 σ = (
  k26 t0 (x3 + (1 : Int32)) σ
  ) := rfl
noncomputable def lp_X4_busy_26 (F : Nat) (x1 : Int32) : Nat → Int32 → Int32 → Mem → Option (Int32 × Mem) := fun N => Nat.rec (motive := fun _ => Int32 → Int32 → Mem → Option (Int32 × Mem)) (fun _ _ _ => none) (fun _ ih x2 x3 σ =>
  if (24 : Int32) ≤ x3 then (
    if x1 = 0 then (
      some (x2, σ)
    ) else (
      wt_bnd (f_X4_standing F x2 σ) fun r1 s2 =>
      some (r1, s2)
    )
  ) else (
    wt_bnd (f_X4_standing F x3 σ) fun r3 s4 =>
    wt_bnd (f_X4_standing F x2 s4) fun r5 s6 =>
    if r3 ≤ r5 then (
      j_X4_busy_50 F ih x1 x3 x2 s6
    ) else (
      j_X4_busy_50 F ih x1 x3 x3 s6
    )
  )
  ) N
theorem lp_X4_busy_26_s {F N : Nat} {x1 : Int32} {x2 : Int32} {x3 : Int32} {σ : Mem} : lp_X4_busy_26 F x1 (N + 1) x2 x3 σ = (
  if (24 : Int32) ≤ x3 then (
    if x1 = 0 then (
      some (x2, σ)
    ) else (
      wt_bnd (f_X4_standing F x2 σ) fun r1 s2 =>
      some (r1, s2)
    )
  ) else (
    wt_bnd (f_X4_standing F x3 σ) fun r3 s4 =>
    wt_bnd (f_X4_standing F x2 s4) fun r5 s6 =>
    if r3 ≤ r5 then (
      j_X4_busy_50 F (lp_X4_busy_26 F x1 N) x1 x3 x2 s6
    ) else (
      j_X4_busy_50 F (lp_X4_busy_26 F x1 N) x1 x3 x3 s6
    )
  )
  ) := rfl
noncomputable def f_X4_busy (F : Nat) (x1 : Int32) (σ : Mem) : Option (Int32 × Mem) :=
  wt_lt (up2 σ 101 10 (0 : Int32)) fun s7 =>
  wt_bnd (f_X4_in F (Int32.toInt64 x1) (0 : Int64) (1 : Int64) s7) fun r8 s9 =>
  if r8 = 0 then (
    wt_bnd (f_X4_refuse F (-2 : Int32) s9) fun r10 s11 =>
    some (r10, s11)
  ) else (
    lp_X4_busy_26 F x1 F (0 : Int32) (1 : Int32) s9
  )
theorem f_X4_busy_e {F : Nat} {x1 : Int32} {σ : Mem} : f_X4_busy F x1 σ = (
  wt_lt (up2 σ 101 10 (0 : Int32)) fun s7 =>
  wt_bnd (f_X4_in F (Int32.toInt64 x1) (0 : Int64) (1 : Int64) s7) fun r8 s9 =>
  if r8 = 0 then (
    wt_bnd (f_X4_refuse F (-2 : Int32) s9) fun r10 s11 =>
    some (r10, s11)
  ) else (
    lp_X4_busy_26 F x1 F (0 : Int32) (1 : Int32) s9
  )
  ) := rfl
noncomputable def j_X4_together_77 (F : Nat) (k25 : Int32 → Int32 → Mem → Option (Int32 × Mem)) (x1 : Int32) (x2 : Int32) (x4 : Int32) (t0 : Int32) (t1 : Int32) (σ : Mem) : Option (Int32 × Mem) :=
  k25 (t0 ||| t1) (x4 + (1 : Int32)) σ
theorem j_X4_together_77_e {F : Nat} {k25 : Int32 → Int32 → Mem → Option (Int32 × Mem)} {x1 : Int32} {x2 : Int32} {x4 : Int32} {t0 : Int32} {t1 : Int32} {σ : Mem} : j_X4_together_77 F k25 x1 x2 x4 t0 t1 σ = (
  k25 (t0 ||| t1) (x4 + (1 : Int32)) σ
  ) := rfl
noncomputable def j_X4_together_76 (F : Nat) (k25 : Int32 → Int32 → Mem → Option (Int32 × Mem)) (x1 : Int32) (x2 : Int32) (x4 : Int32) (t0 : Int32) (σ : Mem) : Option (Int32 × Mem) :=
  j_X4_together_77 F k25 x1 x2 x4 t0 (0 : Int32) σ
theorem j_X4_together_76_e {F : Nat} {k25 : Int32 → Int32 → Mem → Option (Int32 × Mem)} {x1 : Int32} {x2 : Int32} {x4 : Int32} {t0 : Int32} {σ : Mem} : j_X4_together_76 F k25 x1 x2 x4 t0 σ = (
  j_X4_together_77 F k25 x1 x2 x4 t0 (0 : Int32) σ
  ) := rfl
noncomputable def lp_X4_together_25 (F : Nat) (x1 : Int32) (x2 : Int32) : Nat → Int32 → Int32 → Mem → Option (Int32 × Mem) := fun N => Nat.rec (motive := fun _ => Int32 → Int32 → Mem → Option (Int32 × Mem)) (fun _ _ _ => none) (fun _ ih x3 x4 σ =>
  if (24 : Int32) ≤ x4 then (
    some (x3, σ)
  ) else (
    wt_chk (((24 : Int32) * x1) + x4) 120 <|
    wt_lt (σ 106 (Int32.toNatClampNeg (((24 : Int32) * x1) + x4))) fun z2 =>
    if z2 < 0 then (
      j_X4_together_76 F ih x1 x2 x4 x3 σ
    ) else (
      wt_chk (((24 : Int32) * x2) + x4) 120 <|
      if z2 = (σ 106 (Int32.toNatClampNeg (((24 : Int32) * x2) + x4))) then (
        j_X4_together_77 F ih x1 x2 x4 x3 ((1 : Int32) <<< (x4 &&& 31)) σ
      ) else (
        j_X4_together_76 F ih x1 x2 x4 x3 σ
      )
    )
  )
  ) N
theorem lp_X4_together_25_s {F N : Nat} {x1 : Int32} {x2 : Int32} {x3 : Int32} {x4 : Int32} {σ : Mem} : lp_X4_together_25 F x1 x2 (N + 1) x3 x4 σ = (
  if (24 : Int32) ≤ x4 then (
    some (x3, σ)
  ) else (
    wt_chk (((24 : Int32) * x1) + x4) 120 <|
    wt_lt (σ 106 (Int32.toNatClampNeg (((24 : Int32) * x1) + x4))) fun z2 =>
    if z2 < 0 then (
      j_X4_together_76 F (lp_X4_together_25 F x1 x2 N) x1 x2 x4 x3 σ
    ) else (
      wt_chk (((24 : Int32) * x2) + x4) 120 <|
      if z2 = (σ 106 (Int32.toNatClampNeg (((24 : Int32) * x2) + x4))) then (
        j_X4_together_77 F (lp_X4_together_25 F x1 x2 N) x1 x2 x4 x3 ((1 : Int32) <<< (x4 &&& 31)) σ
      ) else (
        j_X4_together_76 F (lp_X4_together_25 F x1 x2 N) x1 x2 x4 x3 σ
      )
    )
  )
  ) := rfl
noncomputable def f_X4_together (F : Nat) (x1 : Int32) (x2 : Int32) (σ : Mem) : Option (Int32 × Mem) :=
  wt_lt (up2 σ 101 10 (0 : Int32)) fun s4 =>
  wt_bnd (f_X4_areTwo F x1 x2 s4) fun r5 s6 =>
  if r5 = 0 then (
    wt_bnd (f_X4_refuse F (-1 : Int32) s6) fun r7 s8 =>
    some (r7, s8)
  ) else (
    lp_X4_together_25 F x1 x2 F (0 : Int32) (0 : Int32) s6
  )
theorem f_X4_together_e {F : Nat} {x1 : Int32} {x2 : Int32} {σ : Mem} : f_X4_together F x1 x2 σ = (
  wt_lt (up2 σ 101 10 (0 : Int32)) fun s4 =>
  wt_bnd (f_X4_areTwo F x1 x2 s4) fun r5 s6 =>
  if r5 = 0 then (
    wt_bnd (f_X4_refuse F (-1 : Int32) s6) fun r7 s8 =>
    some (r7, s8)
  ) else (
    lp_X4_together_25 F x1 x2 F (0 : Int32) (0 : Int32) s6
  )
  ) := rfl
noncomputable def lp_X4_swapRosters_2 (F : Nat) (x1 : Int32) (x2 : Int32) : Nat → Int32 → Mem → Option (Unit × Mem) := fun N => Nat.rec (motive := fun _ => Int32 → Mem → Option (Unit × Mem)) (fun _ _ => none) (fun _ ih x3 σ =>
  if (24 : Int32) ≤ x3 then (
    some ((), σ)
  ) else (
    wt_chk (((24 : Int32) * x1) + x3) 120 <|
    wt_lt (σ 106 (Int32.toNatClampNeg (((24 : Int32) * x1) + x3))) fun z2 =>
    wt_chk (((24 : Int32) * x2) + x3) 120 <|
    wt_lt (up2 σ 106 (Int32.toNatClampNeg (((24 : Int32) * x1) + x3)) (σ 106 (Int32.toNatClampNeg (((24 : Int32) * x2) + x3)))) fun s4 =>
    wt_lt (up2 s4 106 (Int32.toNatClampNeg (((24 : Int32) * x2) + x3)) z2) fun s5 =>
    ih (x3 + (1 : Int32)) s5
  )
  ) N
theorem lp_X4_swapRosters_2_s {F N : Nat} {x1 : Int32} {x2 : Int32} {x3 : Int32} {σ : Mem} : lp_X4_swapRosters_2 F x1 x2 (N + 1) x3 σ = (
  if (24 : Int32) ≤ x3 then (
    some ((), σ)
  ) else (
    wt_chk (((24 : Int32) * x1) + x3) 120 <|
    wt_lt (σ 106 (Int32.toNatClampNeg (((24 : Int32) * x1) + x3))) fun z2 =>
    wt_chk (((24 : Int32) * x2) + x3) 120 <|
    wt_lt (up2 σ 106 (Int32.toNatClampNeg (((24 : Int32) * x1) + x3)) (σ 106 (Int32.toNatClampNeg (((24 : Int32) * x2) + x3)))) fun s4 =>
    wt_lt (up2 s4 106 (Int32.toNatClampNeg (((24 : Int32) * x2) + x3)) z2) fun s5 =>
    (lp_X4_swapRosters_2 F x1 x2 N) (x3 + (1 : Int32)) s5
  )
  ) := rfl
noncomputable def f_X4_swapRosters (F : Nat) (x1 : Int32) (x2 : Int32) (σ : Mem) : Option (Unit × Mem) :=
  lp_X4_swapRosters_2 F x1 x2 F (0 : Int32) σ
theorem f_X4_swapRosters_e {F : Nat} {x1 : Int32} {x2 : Int32} {σ : Mem} : f_X4_swapRosters F x1 x2 σ = (
  lp_X4_swapRosters_2 F x1 x2 F (0 : Int32) σ
  ) := rfl
noncomputable def j_X4_swap_160 (F : Nat) (k37 : Int32 → Int32 → Int32 → Mem → Option (Int32 × Mem)) (k52 : Int32 → Int32 → Int32 → Mem → Option (Int32 × Mem)) (x1 : Int32) (x2 : Int32) (x4 : Int32) (x5 : Int32) (t0 : Int32) (σ : Mem) : Option (Int32 × Mem) :=
  k52 x2 t0 (x5 + (1 : Int32)) σ
theorem j_X4_swap_160_e {F : Nat} {k37 : Int32 → Int32 → Int32 → Mem → Option (Int32 × Mem)} {k52 : Int32 → Int32 → Int32 → Mem → Option (Int32 × Mem)} {x1 : Int32} {x2 : Int32} {x4 : Int32} {x5 : Int32} {t0 : Int32} {σ : Mem} : j_X4_swap_160 F k37 k52 x1 x2 x4 x5 t0 σ = (
  k52 x2 t0 (x5 + (1 : Int32)) σ
  ) := rfl
noncomputable def j_X4_swap_148 (F : Nat) (k37 : Int32 → Int32 → Int32 → Mem → Option (Int32 × Mem)) (k52 : Int32 → Int32 → Int32 → Mem → Option (Int32 × Mem)) (x1 : Int32) (x3 : Int32) (x4 : Int32) (x5 : Int32) (x7 : Int32) (x8 : Int32) (t0 : Int32) (σ : Mem) : Option (Int32 × Mem) :=
  if x8 = 0 then (
    j_X4_swap_160 F k37 k52 x1 t0 x4 x5 x3 σ
  ) else (
    j_X4_swap_160 F k37 k52 x1 t0 x4 x5 x7 σ
  )
theorem j_X4_swap_148_e {F : Nat} {k37 : Int32 → Int32 → Int32 → Mem → Option (Int32 × Mem)} {k52 : Int32 → Int32 → Int32 → Mem → Option (Int32 × Mem)} {x1 : Int32} {x3 : Int32} {x4 : Int32} {x5 : Int32} {x7 : Int32} {x8 : Int32} {t0 : Int32} {σ : Mem} : j_X4_swap_148 F k37 k52 x1 x3 x4 x5 x7 x8 t0 σ = (
  if x8 = 0 then (
    j_X4_swap_160 F k37 k52 x1 t0 x4 x5 x3 σ
  ) else (
    j_X4_swap_160 F k37 k52 x1 t0 x4 x5 x7 σ
  )
  ) := rfl
noncomputable def j_X4_swap_129 (F : Nat) (k37 : Int32 → Int32 → Int32 → Mem → Option (Int32 × Mem)) (k52 : Int32 → Int32 → Int32 → Mem → Option (Int32 × Mem)) (x1 : Int32) (x2 : Int32) (x3 : Int32) (x4 : Int32) (x5 : Int32) (x7 : Int32) (t0 : Int32) (σ : Mem) : Option (Int32 × Mem) :=
  if t0 = 0 then (
    j_X4_swap_148 F k37 k52 x1 x3 x4 x5 x7 t0 x2 σ
  ) else (
    j_X4_swap_148 F k37 k52 x1 x3 x4 x5 x7 t0 (((10 : Int32) * x4) + x5) σ
  )
theorem j_X4_swap_129_e {F : Nat} {k37 : Int32 → Int32 → Int32 → Mem → Option (Int32 × Mem)} {k52 : Int32 → Int32 → Int32 → Mem → Option (Int32 × Mem)} {x1 : Int32} {x2 : Int32} {x3 : Int32} {x4 : Int32} {x5 : Int32} {x7 : Int32} {t0 : Int32} {σ : Mem} : j_X4_swap_129 F k37 k52 x1 x2 x3 x4 x5 x7 t0 σ = (
  if t0 = 0 then (
    j_X4_swap_148 F k37 k52 x1 x3 x4 x5 x7 t0 x2 σ
  ) else (
    j_X4_swap_148 F k37 k52 x1 x3 x4 x5 x7 t0 (((10 : Int32) * x4) + x5) σ
  )
  ) := rfl
noncomputable def j_X4_swap_128 (F : Nat) (k37 : Int32 → Int32 → Int32 → Mem → Option (Int32 × Mem)) (k52 : Int32 → Int32 → Int32 → Mem → Option (Int32 × Mem)) (x1 : Int32) (x2 : Int32) (x3 : Int32) (x4 : Int32) (x5 : Int32) (x7 : Int32) (σ : Mem) : Option (Int32 × Mem) :=
  j_X4_swap_129 F k37 k52 x1 x2 x3 x4 x5 x7 (0 : Int32) σ
theorem j_X4_swap_128_e {F : Nat} {k37 : Int32 → Int32 → Int32 → Mem → Option (Int32 × Mem)} {k52 : Int32 → Int32 → Int32 → Mem → Option (Int32 × Mem)} {x1 : Int32} {x2 : Int32} {x3 : Int32} {x4 : Int32} {x5 : Int32} {x7 : Int32} {σ : Mem} : j_X4_swap_128 F k37 k52 x1 x2 x3 x4 x5 x7 σ = (
  j_X4_swap_129 F k37 k52 x1 x2 x3 x4 x5 x7 (0 : Int32) σ
  ) := rfl
noncomputable def lp_X4_swap_52 (F : Nat) (k37 : Int32 → Int32 → Int32 → Mem → Option (Int32 × Mem)) (x1 : Int32) (x4 : Int32) : Nat → Int32 → Int32 → Int32 → Mem → Option (Int32 × Mem) := fun N => Nat.rec (motive := fun _ => Int32 → Int32 → Int32 → Mem → Option (Int32 × Mem)) (fun _ _ _ _ => none) (fun _ ih x2 x3 x5 σ =>
  if (σ 101 3) ≤ x5 then (
    k37 x2 x3 (x4 + (1 : Int32)) σ
  ) else (
    wt_bnd (f_X4_worthAnew F x4 x1 σ) fun r1 s2 =>
    wt_bnd (f_X4_worthIn F x5 x1 s2) fun r3 s4 =>
    wt_bnd (f_X4_swapRosters F x4 x5 s4) fun r5 s6 =>
    wt_bnd (f_X4_worthAnew F x4 x1 s6) fun r7 s8 =>
    wt_bnd (f_X4_worthIn F x5 x1 s8) fun r9 s10 =>
    wt_bnd (f_X4_swapRosters F x4 x5 s10) fun r11 s12 =>
    if (r7 + r9) ≤ (r1 + r3) then (
      j_X4_swap_128 F k37 ih x1 x2 x3 x4 x5 (r7 + r9) s12
    ) else (
      if (r7 + r9) ≤ x3 then (
        j_X4_swap_128 F k37 ih x1 x2 x3 x4 x5 (r7 + r9) s12
      ) else (
        j_X4_swap_129 F k37 ih x1 x2 x3 x4 x5 (r7 + r9) (1 : Int32) s12
      )
    )
  )
  ) N
theorem lp_X4_swap_52_s {F N : Nat} {k37 : Int32 → Int32 → Int32 → Mem → Option (Int32 × Mem)} {x1 : Int32} {x4 : Int32} {x2 : Int32} {x3 : Int32} {x5 : Int32} {σ : Mem} : lp_X4_swap_52 F k37 x1 x4 (N + 1) x2 x3 x5 σ = (
  if (σ 101 3) ≤ x5 then (
    k37 x2 x3 (x4 + (1 : Int32)) σ
  ) else (
    wt_bnd (f_X4_worthAnew F x4 x1 σ) fun r1 s2 =>
    wt_bnd (f_X4_worthIn F x5 x1 s2) fun r3 s4 =>
    wt_bnd (f_X4_swapRosters F x4 x5 s4) fun r5 s6 =>
    wt_bnd (f_X4_worthAnew F x4 x1 s6) fun r7 s8 =>
    wt_bnd (f_X4_worthIn F x5 x1 s8) fun r9 s10 =>
    wt_bnd (f_X4_swapRosters F x4 x5 s10) fun r11 s12 =>
    if (r7 + r9) ≤ (r1 + r3) then (
      j_X4_swap_128 F k37 (lp_X4_swap_52 F k37 x1 x4 N) x1 x2 x3 x4 x5 (r7 + r9) s12
    ) else (
      if (r7 + r9) ≤ x3 then (
        j_X4_swap_128 F k37 (lp_X4_swap_52 F k37 x1 x4 N) x1 x2 x3 x4 x5 (r7 + r9) s12
      ) else (
        j_X4_swap_129 F k37 (lp_X4_swap_52 F k37 x1 x4 N) x1 x2 x3 x4 x5 (r7 + r9) (1 : Int32) s12
      )
    )
  )
  ) := rfl
noncomputable def lp_X4_swap_37 (F : Nat) (x1 : Int32) : Nat → Int32 → Int32 → Int32 → Mem → Option (Int32 × Mem) := fun N => Nat.rec (motive := fun _ => Int32 → Int32 → Int32 → Mem → Option (Int32 × Mem)) (fun _ _ _ _ => none) (fun _ ih x2 x3 x4 σ =>
  if (σ 101 3) ≤ x4 then (
    some (x2, σ)
  ) else (
    lp_X4_swap_52 F ih x1 x4 F x2 x3 (x4 + (1 : Int32)) σ
  )
  ) N
theorem lp_X4_swap_37_s {F N : Nat} {x1 : Int32} {x2 : Int32} {x3 : Int32} {x4 : Int32} {σ : Mem} : lp_X4_swap_37 F x1 (N + 1) x2 x3 x4 σ = (
  if (σ 101 3) ≤ x4 then (
    some (x2, σ)
  ) else (
    lp_X4_swap_52 F (lp_X4_swap_37 F x1 N) x1 x4 F x2 x3 (x4 + (1 : Int32)) σ
  )
  ) := rfl
noncomputable def f_X4_swap (F : Nat) (x1 : Int32) (σ : Mem) : Option (Int32 × Mem) :=
  wt_lt (up2 σ 101 10 (0 : Int32)) fun s13 =>
  wt_bnd (f_X4_wrongNumber F x1 (0 : Int32) (999 : Int32) s13) fun r14 s15 =>
  if 0 ≤ r14 then (
    lp_X4_swap_37 F x1 F (-9 : Int32) (-1 : Int32) (0 : Int32) s15
  ) else (
    wt_bnd (f_X4_wrongNumber F x1 (0 : Int32) (999 : Int32) s15) fun r16 s17 =>
    wt_bnd (f_X4_refuse F r16 s17) fun r18 s19 =>
    some (r18, s19)
  )
theorem f_X4_swap_e {F : Nat} {x1 : Int32} {σ : Mem} : f_X4_swap F x1 σ = (
  wt_lt (up2 σ 101 10 (0 : Int32)) fun s13 =>
  wt_bnd (f_X4_wrongNumber F x1 (0 : Int32) (999 : Int32) s13) fun r14 s15 =>
  if 0 ≤ r14 then (
    lp_X4_swap_37 F x1 F (-9 : Int32) (-1 : Int32) (0 : Int32) s15
  ) else (
    wt_bnd (f_X4_wrongNumber F x1 (0 : Int32) (999 : Int32) s15) fun r16 s17 =>
    wt_bnd (f_X4_refuse F r16 s17) fun r18 s19 =>
    some (r18, s19)
  )
  ) := rfl
noncomputable def lp_X4_heir_63 (F : Nat) (x1 : Int32) (x2 : Int32) (x3 : Int32) : Nat → Int32 → Mem → Option (Int32 × Mem) := fun N => Nat.rec (motive := fun _ => Int32 → Mem → Option (Int32 × Mem)) (fun _ _ => none) (fun _ ih x5 σ =>
  if (8 : Int32) ≤ x5 then (
    wt_bnd (f_X4_layBrings F σ) fun r1 s2 =>
    wt_bnd (f_X4_ownerIn F x2 x3 s2) fun r3 s4 =>
    wt_bnd (f_X4_again F s4) fun r5 s6 =>
    some (r3, s6)
  ) else (
    wt_chk (((8 : Int32) * x1) + x5) 40 <|
    wt_lt (up2 σ 107 (Int32.toNatClampNeg (((8 : Int32) * x1) + x5)) (0 : Int32)) fun s8 =>
    ih (x5 + (1 : Int32)) s8
  )
  ) N
theorem lp_X4_heir_63_s {F N : Nat} {x1 : Int32} {x2 : Int32} {x3 : Int32} {x5 : Int32} {σ : Mem} : lp_X4_heir_63 F x1 x2 x3 (N + 1) x5 σ = (
  if (8 : Int32) ≤ x5 then (
    wt_bnd (f_X4_layBrings F σ) fun r1 s2 =>
    wt_bnd (f_X4_ownerIn F x2 x3 s2) fun r3 s4 =>
    wt_bnd (f_X4_again F s4) fun r5 s6 =>
    some (r3, s6)
  ) else (
    wt_chk (((8 : Int32) * x1) + x5) 40 <|
    wt_lt (up2 σ 107 (Int32.toNatClampNeg (((8 : Int32) * x1) + x5)) (0 : Int32)) fun s8 =>
    (lp_X4_heir_63 F x1 x2 x3 N) (x5 + (1 : Int32)) s8
  )
  ) := rfl
noncomputable def j_X4_heir_32 (F : Nat) (x1 : Int32) (x2 : Int32) (x3 : Int32) (t0 : Int32) (σ : Mem) : Option (Int32 × Mem) :=
  if 0 ≤ t0 then (
    wt_bnd (f_X4_think F σ) fun r9 s10 =>
    wt_bnd (f_X4_stand F x1 (0 : Int32) (23 : Int32) (9 : Int32) s10) fun r11 s12 =>
    lp_X4_heir_63 F x1 x2 x3 F (0 : Int32) s12
  ) else (
    wt_bnd (f_X4_refuse F t0 σ) fun r13 s14 =>
    some (r13, s14)
  )
theorem j_X4_heir_32_e {F : Nat} {x1 : Int32} {x2 : Int32} {x3 : Int32} {t0 : Int32} {σ : Mem} : j_X4_heir_32 F x1 x2 x3 t0 σ = (
  if 0 ≤ t0 then (
    wt_bnd (f_X4_think F σ) fun r9 s10 =>
    wt_bnd (f_X4_stand F x1 (0 : Int32) (23 : Int32) (9 : Int32) s10) fun r11 s12 =>
    lp_X4_heir_63 F x1 x2 x3 F (0 : Int32) s12
  ) else (
    wt_bnd (f_X4_refuse F t0 σ) fun r13 s14 =>
    some (r13, s14)
  )
  ) := rfl
noncomputable def j_X4_heir_31 (F : Nat) (x1 : Int32) (x2 : Int32) (x3 : Int32) (σ : Mem) : Option (Int32 × Mem) :=
  j_X4_heir_32 F x1 x2 x3 (-1 : Int32) σ
theorem j_X4_heir_31_e {F : Nat} {x1 : Int32} {x2 : Int32} {x3 : Int32} {σ : Mem} : j_X4_heir_31 F x1 x2 x3 σ = (
  j_X4_heir_32 F x1 x2 x3 (-1 : Int32) σ
  ) := rfl
noncomputable def f_X4_heir (F : Nat) (x1 : Int32) (x2 : Int32) (x3 : Int32) (σ : Mem) : Option (Int32 × Mem) :=
  wt_lt (up2 σ 101 10 (0 : Int32)) fun s15 =>
  wt_bnd (f_X4_isLooker F x1 s15) fun r16 s17 =>
  if r16 = 0 then (
    j_X4_heir_31 F x1 x2 x3 s17
  ) else (
    wt_bnd (f_X4_isView F x2 s17) fun r18 s19 =>
    if r18 = 0 then (
      j_X4_heir_31 F x1 x2 x3 s19
    ) else (
      wt_bnd (f_X4_wrongNumber F x3 (0 : Int32) (999 : Int32) s19) fun r20 s21 =>
      j_X4_heir_32 F x1 x2 x3 r20 s21
    )
  )
theorem f_X4_heir_e {F : Nat} {x1 : Int32} {x2 : Int32} {x3 : Int32} {σ : Mem} : f_X4_heir F x1 x2 x3 σ = (
  wt_lt (up2 σ 101 10 (0 : Int32)) fun s15 =>
  wt_bnd (f_X4_isLooker F x1 s15) fun r16 s17 =>
  if r16 = 0 then (
    j_X4_heir_31 F x1 x2 x3 s17
  ) else (
    wt_bnd (f_X4_isView F x2 s17) fun r18 s19 =>
    if r18 = 0 then (
      j_X4_heir_31 F x1 x2 x3 s19
    ) else (
      wt_bnd (f_X4_wrongNumber F x3 (0 : Int32) (999 : Int32) s19) fun r20 s21 =>
      j_X4_heir_32 F x1 x2 x3 r20 s21
    )
  )
  ) := rfl
noncomputable def j_X4_even_81 (F : Nat) (k37 : Int32 → Int32 → Mem → Option (Int32 × Mem)) (k50 : Int32 → Int32 → Mem → Option (Int32 × Mem)) (x1 : Int32) (x3 : Int32) (x4 : Int32) (t0 : Int32) (t1 : Int32) (σ : Mem) : Option (Int32 × Mem) :=
  k50 (t0 + t1) (x4 + (1 : Int32)) σ
theorem j_X4_even_81_e {F : Nat} {k37 : Int32 → Int32 → Mem → Option (Int32 × Mem)} {k50 : Int32 → Int32 → Mem → Option (Int32 × Mem)} {x1 : Int32} {x3 : Int32} {x4 : Int32} {t0 : Int32} {t1 : Int32} {σ : Mem} : j_X4_even_81 F k37 k50 x1 x3 x4 t0 t1 σ = (
  k50 (t0 + t1) (x4 + (1 : Int32)) σ
  ) := rfl
noncomputable def lp_X4_even_50 (F : Nat) (k37 : Int32 → Int32 → Mem → Option (Int32 × Mem)) (x1 : Int32) (x3 : Int32) : Nat → Int32 → Int32 → Mem → Option (Int32 × Mem) := fun N => Nat.rec (motive := fun _ => Int32 → Int32 → Mem → Option (Int32 × Mem)) (fun _ _ _ => none) (fun _ ih x2 x4 σ =>
  if (σ 101 3) ≤ x4 then (
    k37 x2 (x3 + (1 : Int32)) σ
  ) else (
    wt_bnd (f_X4_worthIn F x3 x1 σ) fun r1 s2 =>
    wt_bnd (f_X4_worthIn F x4 x1 s2) fun r3 s4 =>
    if r1 = r3 then (
      j_X4_even_81 F k37 ih x1 x3 x4 x2 (1 : Int32) s4
    ) else (
      j_X4_even_81 F k37 ih x1 x3 x4 x2 (0 : Int32) s4
    )
  )
  ) N
theorem lp_X4_even_50_s {F N : Nat} {k37 : Int32 → Int32 → Mem → Option (Int32 × Mem)} {x1 : Int32} {x3 : Int32} {x2 : Int32} {x4 : Int32} {σ : Mem} : lp_X4_even_50 F k37 x1 x3 (N + 1) x2 x4 σ = (
  if (σ 101 3) ≤ x4 then (
    k37 x2 (x3 + (1 : Int32)) σ
  ) else (
    wt_bnd (f_X4_worthIn F x3 x1 σ) fun r1 s2 =>
    wt_bnd (f_X4_worthIn F x4 x1 s2) fun r3 s4 =>
    if r1 = r3 then (
      j_X4_even_81 F k37 (lp_X4_even_50 F k37 x1 x3 N) x1 x3 x4 x2 (1 : Int32) s4
    ) else (
      j_X4_even_81 F k37 (lp_X4_even_50 F k37 x1 x3 N) x1 x3 x4 x2 (0 : Int32) s4
    )
  )
  ) := rfl
noncomputable def lp_X4_even_37 (F : Nat) (x1 : Int32) : Nat → Int32 → Int32 → Mem → Option (Int32 × Mem) := fun N => Nat.rec (motive := fun _ => Int32 → Int32 → Mem → Option (Int32 × Mem)) (fun _ _ _ => none) (fun _ ih x2 x3 σ =>
  if (σ 101 3) ≤ x3 then (
    some (x2, σ)
  ) else (
    lp_X4_even_50 F ih x1 x3 F x2 (x3 + (1 : Int32)) σ
  )
  ) N
theorem lp_X4_even_37_s {F N : Nat} {x1 : Int32} {x2 : Int32} {x3 : Int32} {σ : Mem} : lp_X4_even_37 F x1 (N + 1) x2 x3 σ = (
  if (σ 101 3) ≤ x3 then (
    some (x2, σ)
  ) else (
    lp_X4_even_50 F (lp_X4_even_37 F x1 N) x1 x3 F x2 (x3 + (1 : Int32)) σ
  )
  ) := rfl
noncomputable def f_X4_even (F : Nat) (x1 : Int32) (σ : Mem) : Option (Int32 × Mem) :=
  wt_lt (up2 σ 101 10 (0 : Int32)) fun s5 =>
  wt_bnd (f_X4_wrongNumber F x1 (0 : Int32) (999 : Int32) s5) fun r6 s7 =>
  if 0 ≤ r6 then (
    wt_bnd (f_X4_layBrings F s7) fun r8 s9 =>
    lp_X4_even_37 F x1 F (0 : Int32) (0 : Int32) s9
  ) else (
    wt_bnd (f_X4_wrongNumber F x1 (0 : Int32) (999 : Int32) s7) fun r10 s11 =>
    wt_bnd (f_X4_refuse F r10 s11) fun r12 s13 =>
    some (r12, s13)
  )
theorem f_X4_even_e {F : Nat} {x1 : Int32} {σ : Mem} : f_X4_even F x1 σ = (
  wt_lt (up2 σ 101 10 (0 : Int32)) fun s5 =>
  wt_bnd (f_X4_wrongNumber F x1 (0 : Int32) (999 : Int32) s5) fun r6 s7 =>
  if 0 ≤ r6 then (
    wt_bnd (f_X4_layBrings F s7) fun r8 s9 =>
    lp_X4_even_37 F x1 F (0 : Int32) (0 : Int32) s9
  ) else (
    wt_bnd (f_X4_wrongNumber F x1 (0 : Int32) (999 : Int32) s7) fun r10 s11 =>
    wt_bnd (f_X4_refuse F r10 s11) fun r12 s13 =>
    some (r12, s13)
  )
  ) := rfl
noncomputable def j_X4_last_69 (F : Nat) (k13 : Int32 → Int32 → Mem → Option (Int32 × Mem)) (x2 : Int32) (t0 : Int32) (σ : Mem) : Option (Int32 × Mem) :=
  k13 t0 (x2 + (1 : Int32)) σ
theorem j_X4_last_69_e {F : Nat} {k13 : Int32 → Int32 → Mem → Option (Int32 × Mem)} {x2 : Int32} {t0 : Int32} {σ : Mem} : j_X4_last_69 F k13 x2 t0 σ = (
  k13 t0 (x2 + (1 : Int32)) σ
  ) := rfl
noncomputable def j_X4_last_57 (F : Nat) (k13 : Int32 → Int32 → Mem → Option (Int32 × Mem)) (x1 : Int32) (x2 : Int32) (x4 : Int32) (σ : Mem) : Option (Int32 × Mem) :=
  if x4 ≤ x1 then (
    j_X4_last_69 F k13 x2 x1 σ
  ) else (
    j_X4_last_69 F k13 x2 x4 σ
  )
theorem j_X4_last_57_e {F : Nat} {k13 : Int32 → Int32 → Mem → Option (Int32 × Mem)} {x1 : Int32} {x2 : Int32} {x4 : Int32} {σ : Mem} : j_X4_last_57 F k13 x1 x2 x4 σ = (
  if x4 ≤ x1 then (
    j_X4_last_69 F k13 x2 x1 σ
  ) else (
    j_X4_last_69 F k13 x2 x4 σ
  )
  ) := rfl
noncomputable def lp_X4_last_33 (F : Nat) (k13 : Int32 → Int32 → Mem → Option (Int32 × Mem)) (x1 : Int32) (x2 : Int32) (x3 : Int32) : Nat → Int32 → Mem → Option (Int32 × Mem) := fun N => Nat.rec (motive := fun _ => Int32 → Mem → Option (Int32 × Mem)) (fun _ _ => none) (fun _ ih x4 σ =>
  if x4 ≤ 0 then (
    j_X4_last_57 F k13 x1 x2 x4 σ
  ) else (
    wt_bnd (f_X4_ownerIn F x2 (x4 - (1 : Int32)) σ) fun r1 s2 =>
    if r1 = x3 then (
      ih (x4 + (-1 : Int32)) s2
    ) else (
      j_X4_last_57 F k13 x1 x2 x4 s2
    )
  )
  ) N
theorem lp_X4_last_33_s {F N : Nat} {k13 : Int32 → Int32 → Mem → Option (Int32 × Mem)} {x1 : Int32} {x2 : Int32} {x3 : Int32} {x4 : Int32} {σ : Mem} : lp_X4_last_33 F k13 x1 x2 x3 (N + 1) x4 σ = (
  if x4 ≤ 0 then (
    j_X4_last_57 F k13 x1 x2 x4 σ
  ) else (
    wt_bnd (f_X4_ownerIn F x2 (x4 - (1 : Int32)) σ) fun r1 s2 =>
    if r1 = x3 then (
      (lp_X4_last_33 F k13 x1 x2 x3 N) (x4 + (-1 : Int32)) s2
    ) else (
      j_X4_last_57 F k13 x1 x2 x4 s2
    )
  )
  ) := rfl
noncomputable def lp_X4_last_13 (F : Nat) : Nat → Int32 → Int32 → Mem → Option (Int32 × Mem) := fun N => Nat.rec (motive := fun _ => Int32 → Int32 → Mem → Option (Int32 × Mem)) (fun _ _ _ => none) (fun _ ih x1 x2 σ =>
  if (8 : Int32) ≤ x2 then (
    some (x1, σ)
  ) else (
    wt_bnd (f_X4_ownerIn F x2 (999 : Int32) σ) fun r3 s4 =>
    lp_X4_last_33 F ih x1 x2 r3 F (999 : Int32) s4
  )
  ) N
theorem lp_X4_last_13_s {F N : Nat} {x1 : Int32} {x2 : Int32} {σ : Mem} : lp_X4_last_13 F (N + 1) x1 x2 σ = (
  if (8 : Int32) ≤ x2 then (
    some (x1, σ)
  ) else (
    wt_bnd (f_X4_ownerIn F x2 (999 : Int32) σ) fun r3 s4 =>
    lp_X4_last_33 F (lp_X4_last_13 F N) x1 x2 r3 F (999 : Int32) s4
  )
  ) := rfl
noncomputable def f_X4_last (F : Nat) (σ : Mem) : Option (Int32 × Mem) :=
  wt_lt (up2 σ 101 10 (0 : Int32)) fun s5 =>
  wt_bnd (f_X4_layBrings F s5) fun r6 s7 =>
  lp_X4_last_13 F F (0 : Int32) (0 : Int32) s7
theorem f_X4_last_e {F : Nat} {σ : Mem} : f_X4_last F σ = (
  wt_lt (up2 σ 101 10 (0 : Int32)) fun s5 =>
  wt_bnd (f_X4_layBrings F s5) fun r6 s7 =>
  lp_X4_last_13 F F (0 : Int32) (0 : Int32) s7
  ) := rfl
noncomputable def f_X4_countIn (F : Nat) (x1 : Int32) (x2 : Int32) (x3 : Int32) (σ : Mem) : Option (Int32 × Mem) :=
  wt_chk (((8 : Int32) * x1) + x2) 40 <|
  wt_bnd (f_X4_held F ((σ 107 (Int32.toNatClampNeg (((8 : Int32) * x1) + x2))) + (x3 * (σ 109 (Int32.toNatClampNeg (((8 : Int32) * x1) + x2))))) σ) fun r2 s3 =>
  some (r2, s3)
theorem f_X4_countIn_e {F : Nat} {x1 : Int32} {x2 : Int32} {x3 : Int32} {σ : Mem} : f_X4_countIn F x1 x2 x3 σ = (
  wt_chk (((8 : Int32) * x1) + x2) 40 <|
  wt_bnd (f_X4_held F ((σ 107 (Int32.toNatClampNeg (((8 : Int32) * x1) + x2))) + (x3 * (σ 109 (Int32.toNatClampNeg (((8 : Int32) * x1) + x2))))) σ) fun r2 s3 =>
  some (r2, s3)
  ) := rfl
noncomputable def j_X4_joint_136 (F : Nat) (k50 : Int32 → Int32 → Mem → Option (Int32 × Mem)) (k91 : Int32 → Int32 → Mem → Option (Int32 × Mem)) (x1 : Int32) (x2 : Int32) (x3 : Int32) (x5 : Int32) (x6 : Int32) (x7 : Int32) (x9 : Int32) (t0 : Int32) (σ : Mem) : Option (Int32 × Mem) :=
  k91 t0 (x9 + (1 : Int32)) σ
theorem j_X4_joint_136_e {F : Nat} {k50 : Int32 → Int32 → Mem → Option (Int32 × Mem)} {k91 : Int32 → Int32 → Mem → Option (Int32 × Mem)} {x1 : Int32} {x2 : Int32} {x3 : Int32} {x5 : Int32} {x6 : Int32} {x7 : Int32} {x9 : Int32} {t0 : Int32} {σ : Mem} : j_X4_joint_136 F k50 k91 x1 x2 x3 x5 x6 x7 x9 t0 σ = (
  k91 t0 (x9 + (1 : Int32)) σ
  ) := rfl
noncomputable def j_X4_joint_131 (F : Nat) (k50 : Int32 → Int32 → Mem → Option (Int32 × Mem)) (k91 : Int32 → Int32 → Mem → Option (Int32 × Mem)) (x1 : Int32) (x2 : Int32) (x3 : Int32) (x5 : Int32) (x6 : Int32) (x7 : Int32) (x9 : Int32) (σ : Mem) : Option (Int32 × Mem) :=
  j_X4_joint_136 F k50 k91 x1 x2 x3 x5 x6 x7 x9 (1 : Int32) σ
theorem j_X4_joint_131_e {F : Nat} {k50 : Int32 → Int32 → Mem → Option (Int32 × Mem)} {k91 : Int32 → Int32 → Mem → Option (Int32 × Mem)} {x1 : Int32} {x2 : Int32} {x3 : Int32} {x5 : Int32} {x6 : Int32} {x7 : Int32} {x9 : Int32} {σ : Mem} : j_X4_joint_131 F k50 k91 x1 x2 x3 x5 x6 x7 x9 σ = (
  j_X4_joint_136 F k50 k91 x1 x2 x3 x5 x6 x7 x9 (1 : Int32) σ
  ) := rfl
noncomputable def j_X4_joint_135 (F : Nat) (k50 : Int32 → Int32 → Mem → Option (Int32 × Mem)) (k91 : Int32 → Int32 → Mem → Option (Int32 × Mem)) (x1 : Int32) (x2 : Int32) (x3 : Int32) (x5 : Int32) (x6 : Int32) (x7 : Int32) (x9 : Int32) (σ : Mem) : Option (Int32 × Mem) :=
  j_X4_joint_136 F k50 k91 x1 x2 x3 x5 x6 x7 x9 (0 : Int32) σ
theorem j_X4_joint_135_e {F : Nat} {k50 : Int32 → Int32 → Mem → Option (Int32 × Mem)} {k91 : Int32 → Int32 → Mem → Option (Int32 × Mem)} {x1 : Int32} {x2 : Int32} {x3 : Int32} {x5 : Int32} {x6 : Int32} {x7 : Int32} {x9 : Int32} {σ : Mem} : j_X4_joint_135 F k50 k91 x1 x2 x3 x5 x6 x7 x9 σ = (
  j_X4_joint_136 F k50 k91 x1 x2 x3 x5 x6 x7 x9 (0 : Int32) σ
  ) := rfl
noncomputable def j_X4_joint_159 (F : Nat) (k50 : Int32 → Int32 → Mem → Option (Int32 × Mem)) (x1 : Int32) (x2 : Int32) (x3 : Int32) (x6 : Int32) (t0 : Int32) (t1 : Int32) (σ : Mem) : Option (Int32 × Mem) :=
  k50 (t0 ||| t1) (x6 + (1 : Int32)) σ
theorem j_X4_joint_159_e {F : Nat} {k50 : Int32 → Int32 → Mem → Option (Int32 × Mem)} {x1 : Int32} {x2 : Int32} {x3 : Int32} {x6 : Int32} {t0 : Int32} {t1 : Int32} {σ : Mem} : j_X4_joint_159 F k50 x1 x2 x3 x6 t0 t1 σ = (
  k50 (t0 ||| t1) (x6 + (1 : Int32)) σ
  ) := rfl
noncomputable def lp_X4_joint_91 (F : Nat) (k50 : Int32 → Int32 → Mem → Option (Int32 × Mem)) (x1 : Int32) (x2 : Int32) (x3 : Int32) (x5 : Int32) (x6 : Int32) (x7 : Int32) : Nat → Int32 → Int32 → Mem → Option (Int32 × Mem) := fun N => Nat.rec (motive := fun _ => Int32 → Int32 → Mem → Option (Int32 × Mem)) (fun _ _ _ => none) (fun _ ih x8 x9 σ =>
  if (σ 101 3) ≤ x9 then (
    if x8 = 0 then (
      j_X4_joint_159 F k50 x1 x2 x3 x6 x5 (0 : Int32) σ
    ) else (
      j_X4_joint_159 F k50 x1 x2 x3 x6 x5 ((1 : Int32) <<< (x6 &&& 31)) σ
    )
  ) else (
    if x8 = 0 then (
      j_X4_joint_135 F k50 ih x1 x2 x3 x5 x6 x7 x9 σ
    ) else (
      if x9 = x1 then (
        j_X4_joint_131 F k50 ih x1 x2 x3 x5 x6 x7 x9 σ
      ) else (
        if x9 = x2 then (
          j_X4_joint_131 F k50 ih x1 x2 x3 x5 x6 x7 x9 σ
        ) else (
          wt_bnd (f_X4_countIn F x9 x6 x3 σ) fun r1 s2 =>
          if x7 ≤ r1 then (
            j_X4_joint_135 F k50 ih x1 x2 x3 x5 x6 x7 x9 s2
          ) else (
            j_X4_joint_131 F k50 ih x1 x2 x3 x5 x6 x7 x9 s2
          )
        )
      )
    )
  )
  ) N
theorem lp_X4_joint_91_s {F N : Nat} {k50 : Int32 → Int32 → Mem → Option (Int32 × Mem)} {x1 : Int32} {x2 : Int32} {x3 : Int32} {x5 : Int32} {x6 : Int32} {x7 : Int32} {x8 : Int32} {x9 : Int32} {σ : Mem} : lp_X4_joint_91 F k50 x1 x2 x3 x5 x6 x7 (N + 1) x8 x9 σ = (
  if (σ 101 3) ≤ x9 then (
    if x8 = 0 then (
      j_X4_joint_159 F k50 x1 x2 x3 x6 x5 (0 : Int32) σ
    ) else (
      j_X4_joint_159 F k50 x1 x2 x3 x6 x5 ((1 : Int32) <<< (x6 &&& 31)) σ
    )
  ) else (
    if x8 = 0 then (
      j_X4_joint_135 F k50 (lp_X4_joint_91 F k50 x1 x2 x3 x5 x6 x7 N) x1 x2 x3 x5 x6 x7 x9 σ
    ) else (
      if x9 = x1 then (
        j_X4_joint_131 F k50 (lp_X4_joint_91 F k50 x1 x2 x3 x5 x6 x7 N) x1 x2 x3 x5 x6 x7 x9 σ
      ) else (
        if x9 = x2 then (
          j_X4_joint_131 F k50 (lp_X4_joint_91 F k50 x1 x2 x3 x5 x6 x7 N) x1 x2 x3 x5 x6 x7 x9 σ
        ) else (
          wt_bnd (f_X4_countIn F x9 x6 x3 σ) fun r1 s2 =>
          if x7 ≤ r1 then (
            j_X4_joint_135 F k50 (lp_X4_joint_91 F k50 x1 x2 x3 x5 x6 x7 N) x1 x2 x3 x5 x6 x7 x9 s2
          ) else (
            j_X4_joint_131 F k50 (lp_X4_joint_91 F k50 x1 x2 x3 x5 x6 x7 N) x1 x2 x3 x5 x6 x7 x9 s2
          )
        )
      )
    )
  )
  ) := rfl
noncomputable def j_X4_joint_86 (F : Nat) (k50 : Int32 → Int32 → Mem → Option (Int32 × Mem)) (x1 : Int32) (x2 : Int32) (x3 : Int32) (x5 : Int32) (x6 : Int32) (x7 : Int32) (t0 : Int32) (σ : Mem) : Option (Int32 × Mem) :=
  lp_X4_joint_91 F k50 x1 x2 x3 x5 x6 x7 F t0 (0 : Int32) σ
theorem j_X4_joint_86_e {F : Nat} {k50 : Int32 → Int32 → Mem → Option (Int32 × Mem)} {x1 : Int32} {x2 : Int32} {x3 : Int32} {x5 : Int32} {x6 : Int32} {x7 : Int32} {t0 : Int32} {σ : Mem} : j_X4_joint_86 F k50 x1 x2 x3 x5 x6 x7 t0 σ = (
  lp_X4_joint_91 F k50 x1 x2 x3 x5 x6 x7 F t0 (0 : Int32) σ
  ) := rfl
noncomputable def lp_X4_joint_50 (F : Nat) (x1 : Int32) (x2 : Int32) (x3 : Int32) : Nat → Int32 → Int32 → Mem → Option (Int32 × Mem) := fun N => Nat.rec (motive := fun _ => Int32 → Int32 → Mem → Option (Int32 × Mem)) (fun _ _ _ => none) (fun _ ih x5 x6 σ =>
  if (8 : Int32) ≤ x6 then (
    some (x5, σ)
  ) else (
    wt_bnd (f_X4_countIn F x1 x6 x3 σ) fun r3 s4 =>
    wt_bnd (f_X4_countIn F x2 x6 x3 s4) fun r5 s6 =>
    if (r3 + r5) ≤ 0 then (
      j_X4_joint_86 F ih x1 x2 x3 x5 x6 (r3 + r5) (0 : Int32) s6
    ) else (
      j_X4_joint_86 F ih x1 x2 x3 x5 x6 (r3 + r5) (1 : Int32) s6
    )
  )
  ) N
theorem lp_X4_joint_50_s {F N : Nat} {x1 : Int32} {x2 : Int32} {x3 : Int32} {x5 : Int32} {x6 : Int32} {σ : Mem} : lp_X4_joint_50 F x1 x2 x3 (N + 1) x5 x6 σ = (
  if (8 : Int32) ≤ x6 then (
    some (x5, σ)
  ) else (
    wt_bnd (f_X4_countIn F x1 x6 x3 σ) fun r3 s4 =>
    wt_bnd (f_X4_countIn F x2 x6 x3 s4) fun r5 s6 =>
    if (r3 + r5) ≤ 0 then (
      j_X4_joint_86 F (lp_X4_joint_50 F x1 x2 x3 N) x1 x2 x3 x5 x6 (r3 + r5) (0 : Int32) s6
    ) else (
      j_X4_joint_86 F (lp_X4_joint_50 F x1 x2 x3 N) x1 x2 x3 x5 x6 (r3 + r5) (1 : Int32) s6
    )
  )
  ) := rfl
noncomputable def j_X4_joint_26 (F : Nat) (x1 : Int32) (x2 : Int32) (x3 : Int32) (t0 : Int32) (σ : Mem) : Option (Int32 × Mem) :=
  if 0 ≤ t0 then (
    wt_bnd (f_X4_layBrings F σ) fun r7 s8 =>
    lp_X4_joint_50 F x1 x2 x3 F (0 : Int32) (0 : Int32) s8
  ) else (
    wt_bnd (f_X4_refuse F t0 σ) fun r9 s10 =>
    some (r9, s10)
  )
theorem j_X4_joint_26_e {F : Nat} {x1 : Int32} {x2 : Int32} {x3 : Int32} {t0 : Int32} {σ : Mem} : j_X4_joint_26 F x1 x2 x3 t0 σ = (
  if 0 ≤ t0 then (
    wt_bnd (f_X4_layBrings F σ) fun r7 s8 =>
    lp_X4_joint_50 F x1 x2 x3 F (0 : Int32) (0 : Int32) s8
  ) else (
    wt_bnd (f_X4_refuse F t0 σ) fun r9 s10 =>
    some (r9, s10)
  )
  ) := rfl
noncomputable def f_X4_joint (F : Nat) (x1 : Int32) (x2 : Int32) (x3 : Int32) (σ : Mem) : Option (Int32 × Mem) :=
  wt_lt (up2 σ 101 10 (0 : Int32)) fun s11 =>
  wt_bnd (f_X4_areTwo F x1 x2 s11) fun r12 s13 =>
  if r12 = 0 then (
    j_X4_joint_26 F x1 x2 x3 (-1 : Int32) s13
  ) else (
    wt_bnd (f_X4_wrongNumber F x3 (0 : Int32) (999 : Int32) s13) fun r14 s15 =>
    j_X4_joint_26 F x1 x2 x3 r14 s15
  )
theorem f_X4_joint_e {F : Nat} {x1 : Int32} {x2 : Int32} {x3 : Int32} {σ : Mem} : f_X4_joint F x1 x2 x3 σ = (
  wt_lt (up2 σ 101 10 (0 : Int32)) fun s11 =>
  wt_bnd (f_X4_areTwo F x1 x2 s11) fun r12 s13 =>
  if r12 = 0 then (
    j_X4_joint_26 F x1 x2 x3 (-1 : Int32) s13
  ) else (
    wt_bnd (f_X4_wrongNumber F x3 (0 : Int32) (999 : Int32) s13) fun r14 s15 =>
    j_X4_joint_26 F x1 x2 x3 r14 s15
  )
  ) := rfl
noncomputable def j_X4_rank_115 (F : Nat) (k40 : Int32 → Mem → Option (Int32 × Mem)) (k55 : Int32 → Int32 → Mem → Option (Int32 × Mem)) (x1 : Int32) (x2 : Int32) (x4 : Int32) (x6 : Int32) (t0 : Int32) (t1 : Int32) (σ : Mem) : Option (Int32 × Mem) :=
  k55 (t0 + t1) (x6 + (1 : Int32)) σ
theorem j_X4_rank_115_e {F : Nat} {k40 : Int32 → Mem → Option (Int32 × Mem)} {k55 : Int32 → Int32 → Mem → Option (Int32 × Mem)} {x1 : Int32} {x2 : Int32} {x4 : Int32} {x6 : Int32} {t0 : Int32} {t1 : Int32} {σ : Mem} : j_X4_rank_115 F k40 k55 x1 x2 x4 x6 t0 t1 σ = (
  k55 (t0 + t1) (x6 + (1 : Int32)) σ
  ) := rfl
noncomputable def j_X4_rank_110 (F : Nat) (k40 : Int32 → Mem → Option (Int32 × Mem)) (k55 : Int32 → Int32 → Mem → Option (Int32 × Mem)) (x1 : Int32) (x2 : Int32) (x4 : Int32) (x6 : Int32) (t0 : Int32) (σ : Mem) : Option (Int32 × Mem) :=
  j_X4_rank_115 F k40 k55 x1 x2 x4 x6 t0 (1 : Int32) σ
theorem j_X4_rank_110_e {F : Nat} {k40 : Int32 → Mem → Option (Int32 × Mem)} {k55 : Int32 → Int32 → Mem → Option (Int32 × Mem)} {x1 : Int32} {x2 : Int32} {x4 : Int32} {x6 : Int32} {t0 : Int32} {σ : Mem} : j_X4_rank_110 F k40 k55 x1 x2 x4 x6 t0 σ = (
  j_X4_rank_115 F k40 k55 x1 x2 x4 x6 t0 (1 : Int32) σ
  ) := rfl
noncomputable def j_X4_rank_114 (F : Nat) (k40 : Int32 → Mem → Option (Int32 × Mem)) (k55 : Int32 → Int32 → Mem → Option (Int32 × Mem)) (x1 : Int32) (x2 : Int32) (x4 : Int32) (x6 : Int32) (t0 : Int32) (σ : Mem) : Option (Int32 × Mem) :=
  j_X4_rank_115 F k40 k55 x1 x2 x4 x6 t0 (0 : Int32) σ
theorem j_X4_rank_114_e {F : Nat} {k40 : Int32 → Mem → Option (Int32 × Mem)} {k55 : Int32 → Int32 → Mem → Option (Int32 × Mem)} {x1 : Int32} {x2 : Int32} {x4 : Int32} {x6 : Int32} {t0 : Int32} {σ : Mem} : j_X4_rank_114 F k40 k55 x1 x2 x4 x6 t0 σ = (
  j_X4_rank_115 F k40 k55 x1 x2 x4 x6 t0 (0 : Int32) σ
  ) := rfl
noncomputable def lp_X4_rank_55 (F : Nat) (k40 : Int32 → Mem → Option (Int32 × Mem)) (x1 : Int32) (x2 : Int32) (x4 : Int32) : Nat → Int32 → Int32 → Mem → Option (Int32 × Mem) := fun N => Nat.rec (motive := fun _ => Int32 → Int32 → Mem → Option (Int32 × Mem)) (fun _ _ _ => none) (fun _ ih x5 x6 σ =>
  if (σ 101 3) ≤ x6 then (
    if x5 = x2 then (
      some (x4, σ)
    ) else (
      k40 (x4 + (1 : Int32)) σ
    )
  ) else (
    wt_chk (((8 : Int32) * x6) + x1) 40 <|
    wt_chk (((8 : Int32) * x4) + x1) 40 <|
    wt_lt ((σ 107 (Int32.toNatClampNeg (((8 : Int32) * x6) + x1))) - (σ 107 (Int32.toNatClampNeg (((8 : Int32) * x4) + x1)))) fun z3 =>
    if 0 < z3 then (
      j_X4_rank_110 F k40 ih x1 x2 x4 x6 x5 σ
    ) else (
      if z3 = 0 then (
        if x4 ≤ x6 then (
          j_X4_rank_114 F k40 ih x1 x2 x4 x6 x5 σ
        ) else (
          j_X4_rank_110 F k40 ih x1 x2 x4 x6 x5 σ
        )
      ) else (
        j_X4_rank_114 F k40 ih x1 x2 x4 x6 x5 σ
      )
    )
  )
  ) N
theorem lp_X4_rank_55_s {F N : Nat} {k40 : Int32 → Mem → Option (Int32 × Mem)} {x1 : Int32} {x2 : Int32} {x4 : Int32} {x5 : Int32} {x6 : Int32} {σ : Mem} : lp_X4_rank_55 F k40 x1 x2 x4 (N + 1) x5 x6 σ = (
  if (σ 101 3) ≤ x6 then (
    if x5 = x2 then (
      some (x4, σ)
    ) else (
      k40 (x4 + (1 : Int32)) σ
    )
  ) else (
    wt_chk (((8 : Int32) * x6) + x1) 40 <|
    wt_chk (((8 : Int32) * x4) + x1) 40 <|
    wt_lt ((σ 107 (Int32.toNatClampNeg (((8 : Int32) * x6) + x1))) - (σ 107 (Int32.toNatClampNeg (((8 : Int32) * x4) + x1)))) fun z3 =>
    if 0 < z3 then (
      j_X4_rank_110 F k40 (lp_X4_rank_55 F k40 x1 x2 x4 N) x1 x2 x4 x6 x5 σ
    ) else (
      if z3 = 0 then (
        if x4 ≤ x6 then (
          j_X4_rank_114 F k40 (lp_X4_rank_55 F k40 x1 x2 x4 N) x1 x2 x4 x6 x5 σ
        ) else (
          j_X4_rank_110 F k40 (lp_X4_rank_55 F k40 x1 x2 x4 N) x1 x2 x4 x6 x5 σ
        )
      ) else (
        j_X4_rank_114 F k40 (lp_X4_rank_55 F k40 x1 x2 x4 N) x1 x2 x4 x6 x5 σ
      )
    )
  )
  ) := rfl
noncomputable def lp_X4_rank_40 (F : Nat) (x1 : Int32) (x2 : Int32) : Nat → Int32 → Mem → Option (Int32 × Mem) := fun N => Nat.rec (motive := fun _ => Int32 → Mem → Option (Int32 × Mem)) (fun _ _ => none) (fun _ ih x4 σ =>
  if (σ 101 3) ≤ x4 then (
    some ((-9 : Int32), σ)
  ) else (
    lp_X4_rank_55 F ih x1 x2 x4 F (0 : Int32) (0 : Int32) σ
  )
  ) N
theorem lp_X4_rank_40_s {F N : Nat} {x1 : Int32} {x2 : Int32} {x4 : Int32} {σ : Mem} : lp_X4_rank_40 F x1 x2 (N + 1) x4 σ = (
  if (σ 101 3) ≤ x4 then (
    some ((-9 : Int32), σ)
  ) else (
    lp_X4_rank_55 F (lp_X4_rank_40 F x1 x2 N) x1 x2 x4 F (0 : Int32) (0 : Int32) σ
  )
  ) := rfl
noncomputable def j_X4_rank_26 (F : Nat) (x1 : Int32) (x2 : Int32) (t0 : Int32) (σ : Mem) : Option (Int32 × Mem) :=
  if 0 ≤ t0 then (
    lp_X4_rank_40 F x1 x2 F (0 : Int32) σ
  ) else (
    wt_bnd (f_X4_refuse F t0 σ) fun r4 s5 =>
    some (r4, s5)
  )
theorem j_X4_rank_26_e {F : Nat} {x1 : Int32} {x2 : Int32} {t0 : Int32} {σ : Mem} : j_X4_rank_26 F x1 x2 t0 σ = (
  if 0 ≤ t0 then (
    lp_X4_rank_40 F x1 x2 F (0 : Int32) σ
  ) else (
    wt_bnd (f_X4_refuse F t0 σ) fun r4 s5 =>
    some (r4, s5)
  )
  ) := rfl
noncomputable def f_X4_rank (F : Nat) (x1 : Int32) (x2 : Int32) (σ : Mem) : Option (Int32 × Mem) :=
  wt_lt (up2 σ 101 10 (0 : Int32)) fun s6 =>
  wt_bnd (f_X4_isView F x1 s6) fun r7 s8 =>
  if r7 = 0 then (
    j_X4_rank_26 F x1 x2 (-1 : Int32) s8
  ) else (
    if 0 ≤ x2 then (
      j_X4_rank_26 F x1 x2 (0 : Int32) s8
    ) else (
      j_X4_rank_26 F x1 x2 (-4 : Int32) s8
    )
  )
theorem f_X4_rank_e {F : Nat} {x1 : Int32} {x2 : Int32} {σ : Mem} : f_X4_rank F x1 x2 σ = (
  wt_lt (up2 σ 101 10 (0 : Int32)) fun s6 =>
  wt_bnd (f_X4_isView F x1 s6) fun r7 s8 =>
  if r7 = 0 then (
    j_X4_rank_26 F x1 x2 (-1 : Int32) s8
  ) else (
    if 0 ≤ x2 then (
      j_X4_rank_26 F x1 x2 (0 : Int32) s8
    ) else (
      j_X4_rank_26 F x1 x2 (-4 : Int32) s8
    )
  )
  ) := rfl
noncomputable def j_X4_gap_109 (F : Nat) (k48 : Int32 → Int32 → Int32 → Mem → Option (Int32 × Mem)) (x1 : Int32) (x2 : Int32) (x5 : Int32) (x6 : Int32) (t0 : Int32) (σ : Mem) : Option (Int32 × Mem) :=
  k48 t0 x5 (x6 + (1 : Int32)) σ
theorem j_X4_gap_109_e {F : Nat} {k48 : Int32 → Int32 → Int32 → Mem → Option (Int32 × Mem)} {x1 : Int32} {x2 : Int32} {x5 : Int32} {x6 : Int32} {t0 : Int32} {σ : Mem} : j_X4_gap_109 F k48 x1 x2 x5 x6 t0 σ = (
  k48 t0 x5 (x6 + (1 : Int32)) σ
  ) := rfl
noncomputable def j_X4_gap_93 (F : Nat) (k48 : Int32 → Int32 → Int32 → Mem → Option (Int32 × Mem)) (x1 : Int32) (x2 : Int32) (x4 : Int32) (x6 : Int32) (x7 : Int32) (t0 : Int32) (σ : Mem) : Option (Int32 × Mem) :=
  if x7 ≤ x4 then (
    j_X4_gap_109 F k48 x1 x2 t0 x6 x4 σ
  ) else (
    j_X4_gap_109 F k48 x1 x2 t0 x6 x7 σ
  )
theorem j_X4_gap_93_e {F : Nat} {k48 : Int32 → Int32 → Int32 → Mem → Option (Int32 × Mem)} {x1 : Int32} {x2 : Int32} {x4 : Int32} {x6 : Int32} {x7 : Int32} {t0 : Int32} {σ : Mem} : j_X4_gap_93 F k48 x1 x2 x4 x6 x7 t0 σ = (
  if x7 ≤ x4 then (
    j_X4_gap_109 F k48 x1 x2 t0 x6 x4 σ
  ) else (
    j_X4_gap_109 F k48 x1 x2 t0 x6 x7 σ
  )
  ) := rfl
noncomputable def lp_X4_gap_48 (F : Nat) (x1 : Int32) (x2 : Int32) : Nat → Int32 → Int32 → Int32 → Mem → Option (Int32 × Mem) := fun N => Nat.rec (motive := fun _ => Int32 → Int32 → Int32 → Mem → Option (Int32 × Mem)) (fun _ _ _ _ => none) (fun _ ih x4 x5 x6 σ =>
  if (σ 101 3) ≤ x6 then (
    some ((x4 - x5), σ)
  ) else (
    wt_bnd (f_X4_countIn F x6 x1 x2 σ) fun r1 s2 =>
    if r1 ≤ x4 then (
      if r1 ≤ x5 then (
        j_X4_gap_93 F ih x1 x2 x4 x6 r1 x5 s2
      ) else (
        j_X4_gap_93 F ih x1 x2 x4 x6 r1 r1 s2
      )
    ) else (
      j_X4_gap_93 F ih x1 x2 x4 x6 r1 x4 s2
    )
  )
  ) N
theorem lp_X4_gap_48_s {F N : Nat} {x1 : Int32} {x2 : Int32} {x4 : Int32} {x5 : Int32} {x6 : Int32} {σ : Mem} : lp_X4_gap_48 F x1 x2 (N + 1) x4 x5 x6 σ = (
  if (σ 101 3) ≤ x6 then (
    some ((x4 - x5), σ)
  ) else (
    wt_bnd (f_X4_countIn F x6 x1 x2 σ) fun r1 s2 =>
    if r1 ≤ x4 then (
      if r1 ≤ x5 then (
        j_X4_gap_93 F (lp_X4_gap_48 F x1 x2 N) x1 x2 x4 x6 r1 x5 s2
      ) else (
        j_X4_gap_93 F (lp_X4_gap_48 F x1 x2 N) x1 x2 x4 x6 r1 r1 s2
      )
    ) else (
      j_X4_gap_93 F (lp_X4_gap_48 F x1 x2 N) x1 x2 x4 x6 r1 x4 s2
    )
  )
  ) := rfl
noncomputable def j_X4_gap_24 (F : Nat) (x1 : Int32) (x2 : Int32) (t0 : Int32) (σ : Mem) : Option (Int32 × Mem) :=
  if 0 ≤ t0 then (
    wt_bnd (f_X4_layBrings F σ) fun r3 s4 =>
    lp_X4_gap_48 F x1 x2 F (0 : Int32) (0 : Int32) (0 : Int32) s4
  ) else (
    wt_bnd (f_X4_refuse F t0 σ) fun r5 s6 =>
    some (r5, s6)
  )
theorem j_X4_gap_24_e {F : Nat} {x1 : Int32} {x2 : Int32} {t0 : Int32} {σ : Mem} : j_X4_gap_24 F x1 x2 t0 σ = (
  if 0 ≤ t0 then (
    wt_bnd (f_X4_layBrings F σ) fun r3 s4 =>
    lp_X4_gap_48 F x1 x2 F (0 : Int32) (0 : Int32) (0 : Int32) s4
  ) else (
    wt_bnd (f_X4_refuse F t0 σ) fun r5 s6 =>
    some (r5, s6)
  )
  ) := rfl
noncomputable def f_X4_gap (F : Nat) (x1 : Int32) (x2 : Int32) (σ : Mem) : Option (Int32 × Mem) :=
  wt_lt (up2 σ 101 10 (0 : Int32)) fun s7 =>
  wt_bnd (f_X4_isView F x1 s7) fun r8 s9 =>
  if r8 = 0 then (
    j_X4_gap_24 F x1 x2 (-1 : Int32) s9
  ) else (
    wt_bnd (f_X4_wrongNumber F x2 (0 : Int32) (999 : Int32) s9) fun r10 s11 =>
    j_X4_gap_24 F x1 x2 r10 s11
  )
theorem f_X4_gap_e {F : Nat} {x1 : Int32} {x2 : Int32} {σ : Mem} : f_X4_gap F x1 x2 σ = (
  wt_lt (up2 σ 101 10 (0 : Int32)) fun s7 =>
  wt_bnd (f_X4_isView F x1 s7) fun r8 s9 =>
  if r8 = 0 then (
    j_X4_gap_24 F x1 x2 (-1 : Int32) s9
  ) else (
    wt_bnd (f_X4_wrongNumber F x2 (0 : Int32) (999 : Int32) s9) fun r10 s11 =>
    j_X4_gap_24 F x1 x2 r10 s11
  )
  ) := rfl
noncomputable def j_X4_wasted_125 (F : Nat) (k40 : Int32 → Int32 → Mem → Option (Int32 × Mem)) (x1 : Int32) (x2 : Int32) (x5 : Int32) (t0 : Int32) (t1 : Int32) (σ : Mem) : Option (Int32 × Mem) :=
  k40 (t0 ||| t1) (x5 + (1 : Int32)) σ
theorem j_X4_wasted_125_e {F : Nat} {k40 : Int32 → Int32 → Mem → Option (Int32 × Mem)} {x1 : Int32} {x2 : Int32} {x5 : Int32} {t0 : Int32} {t1 : Int32} {σ : Mem} : j_X4_wasted_125 F k40 x1 x2 x5 t0 t1 σ = (
  k40 (t0 ||| t1) (x5 + (1 : Int32)) σ
  ) := rfl
noncomputable def j_X4_wasted_124 (F : Nat) (k40 : Int32 → Int32 → Mem → Option (Int32 × Mem)) (x1 : Int32) (x2 : Int32) (x5 : Int32) (t0 : Int32) (σ : Mem) : Option (Int32 × Mem) :=
  j_X4_wasted_125 F k40 x1 x2 x5 t0 (0 : Int32) σ
theorem j_X4_wasted_124_e {F : Nat} {k40 : Int32 → Int32 → Mem → Option (Int32 × Mem)} {x1 : Int32} {x2 : Int32} {x5 : Int32} {t0 : Int32} {σ : Mem} : j_X4_wasted_124 F k40 x1 x2 x5 t0 σ = (
  j_X4_wasted_125 F k40 x1 x2 x5 t0 (0 : Int32) σ
  ) := rfl
noncomputable def j_X4_wasted_114 (F : Nat) (k40 : Int32 → Int32 → Mem → Option (Int32 × Mem)) (x1 : Int32) (x2 : Int32) (x5 : Int32) (t0 : Int32) (t1 : Int32) (t2 : Int32) (σ : Mem) : Option (Int32 × Mem) :=
  if t1 = t2 then (
    j_X4_wasted_125 F k40 x1 x2 x5 t0 ((1 : Int32) <<< (x5 &&& 31)) σ
  ) else (
    j_X4_wasted_124 F k40 x1 x2 x5 t0 σ
  )
theorem j_X4_wasted_114_e {F : Nat} {k40 : Int32 → Int32 → Mem → Option (Int32 × Mem)} {x1 : Int32} {x2 : Int32} {x5 : Int32} {t0 : Int32} {t1 : Int32} {t2 : Int32} {σ : Mem} : j_X4_wasted_114 F k40 x1 x2 x5 t0 t1 t2 σ = (
  if t1 = t2 then (
    j_X4_wasted_125 F k40 x1 x2 x5 t0 ((1 : Int32) <<< (x5 &&& 31)) σ
  ) else (
    j_X4_wasted_124 F k40 x1 x2 x5 t0 σ
  )
  ) := rfl
noncomputable def j_X4_wasted_99 (F : Nat) (k40 : Int32 → Int32 → Mem → Option (Int32 × Mem)) (x1 : Int32) (x2 : Int32) (x5 : Int32) (x7 : Int32) (t0 : Int32) (t1 : Int32) (t2 : Int32) (σ : Mem) : Option (Int32 × Mem) :=
  if t1 = t2 then (
    if x2 = (1 : Int32) then (
      j_X4_wasted_114 F k40 x1 x2 x5 t0 x7 (1 : Int32) σ
    ) else (
      j_X4_wasted_114 F k40 x1 x2 x5 t0 x7 (0 : Int32) σ
    )
  ) else (
    j_X4_wasted_124 F k40 x1 x2 x5 t0 σ
  )
theorem j_X4_wasted_99_e {F : Nat} {k40 : Int32 → Int32 → Mem → Option (Int32 × Mem)} {x1 : Int32} {x2 : Int32} {x5 : Int32} {x7 : Int32} {t0 : Int32} {t1 : Int32} {t2 : Int32} {σ : Mem} : j_X4_wasted_99 F k40 x1 x2 x5 x7 t0 t1 t2 σ = (
  if t1 = t2 then (
    if x2 = (1 : Int32) then (
      j_X4_wasted_114 F k40 x1 x2 x5 t0 x7 (1 : Int32) σ
    ) else (
      j_X4_wasted_114 F k40 x1 x2 x5 t0 x7 (0 : Int32) σ
    )
  ) else (
    j_X4_wasted_124 F k40 x1 x2 x5 t0 σ
  )
  ) := rfl
noncomputable def j_X4_wasted_84 (F : Nat) (k40 : Int32 → Int32 → Mem → Option (Int32 × Mem)) (x1 : Int32) (x2 : Int32) (x4 : Int32) (x5 : Int32) (x6 : Int32) (t0 : Int32) (σ : Mem) : Option (Int32 × Mem) :=
  if x2 = 0 then (
    j_X4_wasted_99 F k40 x1 x2 x5 t0 x4 x6 (1 : Int32) σ
  ) else (
    j_X4_wasted_99 F k40 x1 x2 x5 t0 x4 x6 (0 : Int32) σ
  )
theorem j_X4_wasted_84_e {F : Nat} {k40 : Int32 → Int32 → Mem → Option (Int32 × Mem)} {x1 : Int32} {x2 : Int32} {x4 : Int32} {x5 : Int32} {x6 : Int32} {t0 : Int32} {σ : Mem} : j_X4_wasted_84 F k40 x1 x2 x4 x5 x6 t0 σ = (
  if x2 = 0 then (
    j_X4_wasted_99 F k40 x1 x2 x5 t0 x4 x6 (1 : Int32) σ
  ) else (
    j_X4_wasted_99 F k40 x1 x2 x5 t0 x4 x6 (0 : Int32) σ
  )
  ) := rfl
noncomputable def j_X4_wasted_67 (F : Nat) (k40 : Int32 → Int32 → Mem → Option (Int32 × Mem)) (x1 : Int32) (x2 : Int32) (x4 : Int32) (x5 : Int32) (t0 : Int32) (σ : Mem) : Option (Int32 × Mem) :=
  wt_bnd (f_X4_pullOf F x1 x5 σ) fun r1 s2 =>
  if r1 ≤ 0 then (
    j_X4_wasted_84 F k40 x1 x2 x4 x5 t0 (0 : Int32) s2
  ) else (
    j_X4_wasted_84 F k40 x1 x2 x4 x5 t0 (1 : Int32) s2
  )
theorem j_X4_wasted_67_e {F : Nat} {k40 : Int32 → Int32 → Mem → Option (Int32 × Mem)} {x1 : Int32} {x2 : Int32} {x4 : Int32} {x5 : Int32} {t0 : Int32} {σ : Mem} : j_X4_wasted_67 F k40 x1 x2 x4 x5 t0 σ = (
  wt_bnd (f_X4_pullOf F x1 x5 σ) fun r1 s2 =>
  if r1 ≤ 0 then (
    j_X4_wasted_84 F k40 x1 x2 x4 x5 t0 (0 : Int32) s2
  ) else (
    j_X4_wasted_84 F k40 x1 x2 x4 x5 t0 (1 : Int32) s2
  )
  ) := rfl
noncomputable def lp_X4_wasted_40 (F : Nat) (x1 : Int32) (x2 : Int32) : Nat → Int32 → Int32 → Mem → Option (Int32 × Mem) := fun N => Nat.rec (motive := fun _ => Int32 → Int32 → Mem → Option (Int32 × Mem)) (fun _ _ _ => none) (fun _ ih x4 x5 σ =>
  if (24 : Int32) ≤ x5 then (
    some (x4, σ)
  ) else (
    wt_chk (((24 : Int32) * x1) + x5) 120 <|
    if (σ 106 (Int32.toNatClampNeg (((24 : Int32) * x1) + x5))) < 0 then (
      j_X4_wasted_67 F ih x1 x2 x4 x5 (0 : Int32) σ
    ) else (
      j_X4_wasted_67 F ih x1 x2 x4 x5 (1 : Int32) σ
    )
  )
  ) N
theorem lp_X4_wasted_40_s {F N : Nat} {x1 : Int32} {x2 : Int32} {x4 : Int32} {x5 : Int32} {σ : Mem} : lp_X4_wasted_40 F x1 x2 (N + 1) x4 x5 σ = (
  if (24 : Int32) ≤ x5 then (
    some (x4, σ)
  ) else (
    wt_chk (((24 : Int32) * x1) + x5) 120 <|
    if (σ 106 (Int32.toNatClampNeg (((24 : Int32) * x1) + x5))) < 0 then (
      j_X4_wasted_67 F (lp_X4_wasted_40 F x1 x2 N) x1 x2 x4 x5 (0 : Int32) σ
    ) else (
      j_X4_wasted_67 F (lp_X4_wasted_40 F x1 x2 N) x1 x2 x4 x5 (1 : Int32) σ
    )
  )
  ) := rfl
noncomputable def j_X4_wasted_23 (F : Nat) (x1 : Int32) (x2 : Int32) (t0 : Int32) (σ : Mem) : Option (Int32 × Mem) :=
  if 0 ≤ t0 then (
    lp_X4_wasted_40 F x1 x2 F (0 : Int32) (0 : Int32) σ
  ) else (
    wt_bnd (f_X4_refuse F t0 σ) fun r4 s5 =>
    some (r4, s5)
  )
theorem j_X4_wasted_23_e {F : Nat} {x1 : Int32} {x2 : Int32} {t0 : Int32} {σ : Mem} : j_X4_wasted_23 F x1 x2 t0 σ = (
  if 0 ≤ t0 then (
    lp_X4_wasted_40 F x1 x2 F (0 : Int32) (0 : Int32) σ
  ) else (
    wt_bnd (f_X4_refuse F t0 σ) fun r4 s5 =>
    some (r4, s5)
  )
  ) := rfl
noncomputable def f_X4_wasted (F : Nat) (x1 : Int32) (x2 : Int32) (σ : Mem) : Option (Int32 × Mem) :=
  wt_lt (up2 σ 101 10 (0 : Int32)) fun s6 =>
  wt_bnd (f_X4_isLooker F x1 s6) fun r7 s8 =>
  if r7 = 0 then (
    j_X4_wasted_23 F x1 x2 (-1 : Int32) s8
  ) else (
    wt_bnd (f_X4_wrongBit F (0 : Int32) x2 (1 : Int32) s8) fun r9 s10 =>
    j_X4_wasted_23 F x1 x2 r9 s10
  )
theorem f_X4_wasted_e {F : Nat} {x1 : Int32} {x2 : Int32} {σ : Mem} : f_X4_wasted F x1 x2 σ = (
  wt_lt (up2 σ 101 10 (0 : Int32)) fun s6 =>
  wt_bnd (f_X4_isLooker F x1 s6) fun r7 s8 =>
  if r7 = 0 then (
    j_X4_wasted_23 F x1 x2 (-1 : Int32) s8
  ) else (
    wt_bnd (f_X4_wrongBit F (0 : Int32) x2 (1 : Int32) s8) fun r9 s10 =>
    j_X4_wasted_23 F x1 x2 r9 s10
  )
  ) := rfl
noncomputable def lp_X4_ahead_26 (F : Nat) (x1 : Int32) (x2 : Int32) : Nat → Int32 → Mem → Option (Int32 × Mem) := fun N => Nat.rec (motive := fun _ => Int32 → Mem → Option (Int32 × Mem)) (fun _ _ => none) (fun _ ih x3 σ =>
  if (999 : Int32) < x3 then (
    some ((-9 : Int32), σ)
  ) else (
    wt_bnd (f_X4_worthIn F x1 x3 σ) fun r1 s2 =>
    wt_bnd (f_X4_worthIn F x2 x3 s2) fun r3 s4 =>
    if r1 ≤ r3 then (
      ih (x3 + (1 : Int32)) s4
    ) else (
      some (x3, s4)
    )
  )
  ) N
theorem lp_X4_ahead_26_s {F N : Nat} {x1 : Int32} {x2 : Int32} {x3 : Int32} {σ : Mem} : lp_X4_ahead_26 F x1 x2 (N + 1) x3 σ = (
  if (999 : Int32) < x3 then (
    some ((-9 : Int32), σ)
  ) else (
    wt_bnd (f_X4_worthIn F x1 x3 σ) fun r1 s2 =>
    wt_bnd (f_X4_worthIn F x2 x3 s2) fun r3 s4 =>
    if r1 ≤ r3 then (
      (lp_X4_ahead_26 F x1 x2 N) (x3 + (1 : Int32)) s4
    ) else (
      some (x3, s4)
    )
  )
  ) := rfl
noncomputable def f_X4_ahead (F : Nat) (x1 : Int32) (x2 : Int32) (σ : Mem) : Option (Int32 × Mem) :=
  wt_lt (up2 σ 101 10 (0 : Int32)) fun s5 =>
  wt_bnd (f_X4_areTwo F x1 x2 s5) fun r6 s7 =>
  if r6 = 0 then (
    wt_bnd (f_X4_refuse F (-1 : Int32) s7) fun r10 s11 =>
    some (r10, s11)
  ) else (
    wt_bnd (f_X4_layBrings F s7) fun r8 s9 =>
    lp_X4_ahead_26 F x1 x2 F (0 : Int32) s9
  )
theorem f_X4_ahead_e {F : Nat} {x1 : Int32} {x2 : Int32} {σ : Mem} : f_X4_ahead F x1 x2 σ = (
  wt_lt (up2 σ 101 10 (0 : Int32)) fun s5 =>
  wt_bnd (f_X4_areTwo F x1 x2 s5) fun r6 s7 =>
  if r6 = 0 then (
    wt_bnd (f_X4_refuse F (-1 : Int32) s7) fun r10 s11 =>
    some (r10, s11)
  ) else (
    wt_bnd (f_X4_layBrings F s7) fun r8 s9 =>
    lp_X4_ahead_26 F x1 x2 F (0 : Int32) s9
  )
  ) := rfl
noncomputable def j_X4_bestLaw_105 (F : Nat) (k55 : Int32 → Int32 → Int32 → Mem → Option (Int32 × Mem)) (x1 : Int32) (x2 : Int32) (x4 : Int32) (x5 : Int32) (x7 : Int32) (t0 : Int32) (σ : Mem) : Option (Int32 × Mem) :=
  k55 x5 t0 (x7 + (1 : Int32)) σ
theorem j_X4_bestLaw_105_e {F : Nat} {k55 : Int32 → Int32 → Int32 → Mem → Option (Int32 × Mem)} {x1 : Int32} {x2 : Int32} {x4 : Int32} {x5 : Int32} {x7 : Int32} {t0 : Int32} {σ : Mem} : j_X4_bestLaw_105 F k55 x1 x2 x4 x5 x7 t0 σ = (
  k55 x5 t0 (x7 + (1 : Int32)) σ
  ) := rfl
noncomputable def j_X4_bestLaw_89 (F : Nat) (k55 : Int32 → Int32 → Int32 → Mem → Option (Int32 × Mem)) (x1 : Int32) (x2 : Int32) (x4 : Int32) (x6 : Int32) (x7 : Int32) (x8 : Int32) (t0 : Int32) (σ : Mem) : Option (Int32 × Mem) :=
  if x8 ≤ x6 then (
    j_X4_bestLaw_105 F k55 x1 x2 x4 t0 x7 x6 σ
  ) else (
    j_X4_bestLaw_105 F k55 x1 x2 x4 t0 x7 x8 σ
  )
theorem j_X4_bestLaw_89_e {F : Nat} {k55 : Int32 → Int32 → Int32 → Mem → Option (Int32 × Mem)} {x1 : Int32} {x2 : Int32} {x4 : Int32} {x6 : Int32} {x7 : Int32} {x8 : Int32} {t0 : Int32} {σ : Mem} : j_X4_bestLaw_89 F k55 x1 x2 x4 x6 x7 x8 t0 σ = (
  if x8 ≤ x6 then (
    j_X4_bestLaw_105 F k55 x1 x2 x4 t0 x7 x6 σ
  ) else (
    j_X4_bestLaw_105 F k55 x1 x2 x4 t0 x7 x8 σ
  )
  ) := rfl
noncomputable def lp_X4_bestLaw_55 (F : Nat) (x1 : Int32) (x2 : Int32) (x4 : Int32) : Nat → Int32 → Int32 → Int32 → Mem → Option (Int32 × Mem) := fun N => Nat.rec (motive := fun _ => Int32 → Int32 → Int32 → Mem → Option (Int32 × Mem)) (fun _ _ _ _ => none) (fun _ ih x5 x6 x7 σ =>
  if (3 : Int32) ≤ x7 then (
    wt_lt (up2 σ 101 8 x4) fun s1 =>
    some (x5, s1)
  ) else (
    wt_lt (up2 σ 101 8 x7) fun s2 =>
    wt_bnd (f_X4_worthIn F x1 x2 s2) fun r3 s4 =>
    if r3 ≤ x6 then (
      j_X4_bestLaw_89 F ih x1 x2 x4 x6 x7 r3 x5 s4
    ) else (
      j_X4_bestLaw_89 F ih x1 x2 x4 x6 x7 r3 x7 s4
    )
  )
  ) N
theorem lp_X4_bestLaw_55_s {F N : Nat} {x1 : Int32} {x2 : Int32} {x4 : Int32} {x5 : Int32} {x6 : Int32} {x7 : Int32} {σ : Mem} : lp_X4_bestLaw_55 F x1 x2 x4 (N + 1) x5 x6 x7 σ = (
  if (3 : Int32) ≤ x7 then (
    wt_lt (up2 σ 101 8 x4) fun s1 =>
    some (x5, s1)
  ) else (
    wt_lt (up2 σ 101 8 x7) fun s2 =>
    wt_bnd (f_X4_worthIn F x1 x2 s2) fun r3 s4 =>
    if r3 ≤ x6 then (
      j_X4_bestLaw_89 F (lp_X4_bestLaw_55 F x1 x2 x4 N) x1 x2 x4 x6 x7 r3 x5 s4
    ) else (
      j_X4_bestLaw_89 F (lp_X4_bestLaw_55 F x1 x2 x4 N) x1 x2 x4 x6 x7 r3 x7 s4
    )
  )
  ) := rfl
noncomputable def j_X4_bestLaw_25 (F : Nat) (x1 : Int32) (x2 : Int32) (t0 : Int32) (σ : Mem) : Option (Int32 × Mem) :=
  if 0 ≤ t0 then (
    wt_bnd (f_X4_layBrings F σ) fun r5 s6 =>
    lp_X4_bestLaw_55 F x1 x2 (s6 101 8) F (0 : Int32) (-1 : Int32) (0 : Int32) s6
  ) else (
    wt_bnd (f_X4_refuse F t0 σ) fun r7 s8 =>
    some (r7, s8)
  )
theorem j_X4_bestLaw_25_e {F : Nat} {x1 : Int32} {x2 : Int32} {t0 : Int32} {σ : Mem} : j_X4_bestLaw_25 F x1 x2 t0 σ = (
  if 0 ≤ t0 then (
    wt_bnd (f_X4_layBrings F σ) fun r5 s6 =>
    lp_X4_bestLaw_55 F x1 x2 (s6 101 8) F (0 : Int32) (-1 : Int32) (0 : Int32) s6
  ) else (
    wt_bnd (f_X4_refuse F t0 σ) fun r7 s8 =>
    some (r7, s8)
  )
  ) := rfl
noncomputable def f_X4_bestLaw (F : Nat) (x1 : Int32) (x2 : Int32) (σ : Mem) : Option (Int32 × Mem) :=
  wt_lt (up2 σ 101 10 (0 : Int32)) fun s9 =>
  wt_bnd (f_X4_isLooker F x1 s9) fun r10 s11 =>
  if r10 = 0 then (
    j_X4_bestLaw_25 F x1 x2 (-1 : Int32) s11
  ) else (
    wt_bnd (f_X4_wrongNumber F x2 (0 : Int32) (999 : Int32) s11) fun r12 s13 =>
    j_X4_bestLaw_25 F x1 x2 r12 s13
  )
theorem f_X4_bestLaw_e {F : Nat} {x1 : Int32} {x2 : Int32} {σ : Mem} : f_X4_bestLaw F x1 x2 σ = (
  wt_lt (up2 σ 101 10 (0 : Int32)) fun s9 =>
  wt_bnd (f_X4_isLooker F x1 s9) fun r10 s11 =>
  if r10 = 0 then (
    j_X4_bestLaw_25 F x1 x2 (-1 : Int32) s11
  ) else (
    wt_bnd (f_X4_wrongNumber F x2 (0 : Int32) (999 : Int32) s11) fun r12 s13 =>
    j_X4_bestLaw_25 F x1 x2 r12 s13
  )
  ) := rfl
noncomputable def j_X4_newcomer_181 (F : Nat) (k113 : Int32 → Int32 → Int32 → Mem → Option (Int32 × Mem)) (k130 : Int32 → Int32 → Int32 → Mem → Option (Int32 × Mem)) (x3 : Int32) (x5 : Int32) (x6 : Int32) (x8 : Int32) (x9 : Int32) (t0 : Int32) (σ : Mem) : Option (Int32 × Mem) :=
  k130 x6 t0 (x9 + (-1 : Int32)) σ
theorem j_X4_newcomer_181_e {F : Nat} {k113 : Int32 → Int32 → Int32 → Mem → Option (Int32 × Mem)} {k130 : Int32 → Int32 → Int32 → Mem → Option (Int32 × Mem)} {x3 : Int32} {x5 : Int32} {x6 : Int32} {x8 : Int32} {x9 : Int32} {t0 : Int32} {σ : Mem} : j_X4_newcomer_181 F k113 k130 x3 x5 x6 x8 x9 t0 σ = (
  k130 x6 t0 (x9 + (-1 : Int32)) σ
  ) := rfl
noncomputable def j_X4_newcomer_167 (F : Nat) (k113 : Int32 → Int32 → Int32 → Mem → Option (Int32 × Mem)) (k130 : Int32 → Int32 → Int32 → Mem → Option (Int32 × Mem)) (x3 : Int32) (x5 : Int32) (x7 : Int32) (x8 : Int32) (x9 : Int32) (x10 : Int32) (t0 : Int32) (σ : Mem) : Option (Int32 × Mem) :=
  if x10 = 0 then (
    j_X4_newcomer_181 F k113 k130 x3 x5 t0 x8 x9 x7 σ
  ) else (
    j_X4_newcomer_181 F k113 k130 x3 x5 t0 x8 x9 x8 σ
  )
theorem j_X4_newcomer_167_e {F : Nat} {k113 : Int32 → Int32 → Int32 → Mem → Option (Int32 × Mem)} {k130 : Int32 → Int32 → Int32 → Mem → Option (Int32 × Mem)} {x3 : Int32} {x5 : Int32} {x7 : Int32} {x8 : Int32} {x9 : Int32} {x10 : Int32} {t0 : Int32} {σ : Mem} : j_X4_newcomer_167 F k113 k130 x3 x5 x7 x8 x9 x10 t0 σ = (
  if x10 = 0 then (
    j_X4_newcomer_181 F k113 k130 x3 x5 t0 x8 x9 x7 σ
  ) else (
    j_X4_newcomer_181 F k113 k130 x3 x5 t0 x8 x9 x8 σ
  )
  ) := rfl
noncomputable def j_X4_newcomer_153 (F : Nat) (k113 : Int32 → Int32 → Int32 → Mem → Option (Int32 × Mem)) (k130 : Int32 → Int32 → Int32 → Mem → Option (Int32 × Mem)) (x3 : Int32) (x5 : Int32) (x6 : Int32) (x7 : Int32) (x8 : Int32) (x9 : Int32) (t0 : Int32) (σ : Mem) : Option (Int32 × Mem) :=
  if t0 = 0 then (
    j_X4_newcomer_167 F k113 k130 x3 x5 x7 x8 x9 t0 x6 σ
  ) else (
    j_X4_newcomer_167 F k113 k130 x3 x5 x7 x8 x9 t0 x9 σ
  )
theorem j_X4_newcomer_153_e {F : Nat} {k113 : Int32 → Int32 → Int32 → Mem → Option (Int32 × Mem)} {k130 : Int32 → Int32 → Int32 → Mem → Option (Int32 × Mem)} {x3 : Int32} {x5 : Int32} {x6 : Int32} {x7 : Int32} {x8 : Int32} {x9 : Int32} {t0 : Int32} {σ : Mem} : j_X4_newcomer_153 F k113 k130 x3 x5 x6 x7 x8 x9 t0 σ = (
  if t0 = 0 then (
    j_X4_newcomer_167 F k113 k130 x3 x5 x7 x8 x9 t0 x6 σ
  ) else (
    j_X4_newcomer_167 F k113 k130 x3 x5 x7 x8 x9 t0 x9 σ
  )
  ) := rfl
noncomputable def lp_X4_newcomer_130 (F : Nat) (k113 : Int32 → Int32 → Int32 → Mem → Option (Int32 × Mem)) (x3 : Int32) (x5 : Int32) (x8 : Int32) : Nat → Int32 → Int32 → Int32 → Mem → Option (Int32 × Mem) := fun N => Nat.rec (motive := fun _ => Int32 → Int32 → Int32 → Mem → Option (Int32 × Mem)) (fun _ _ _ _ => none) (fun _ ih x6 x7 x9 σ =>
  if x9 < 0 then (
    k113 x6 x7 (x8 + (1 : Int32)) σ
  ) else (
    wt_bnd (f_X4_ownerIn F x9 x8 σ) fun r1 s2 =>
    if r1 = x5 then (
      j_X4_newcomer_153 F k113 ih x3 x5 x6 x7 x8 x9 (1 : Int32) s2
    ) else (
      j_X4_newcomer_153 F k113 ih x3 x5 x6 x7 x8 x9 (0 : Int32) s2
    )
  )
  ) N
theorem lp_X4_newcomer_130_s {F N : Nat} {k113 : Int32 → Int32 → Int32 → Mem → Option (Int32 × Mem)} {x3 : Int32} {x5 : Int32} {x8 : Int32} {x6 : Int32} {x7 : Int32} {x9 : Int32} {σ : Mem} : lp_X4_newcomer_130 F k113 x3 x5 x8 (N + 1) x6 x7 x9 σ = (
  if x9 < 0 then (
    k113 x6 x7 (x8 + (1 : Int32)) σ
  ) else (
    wt_bnd (f_X4_ownerIn F x9 x8 σ) fun r1 s2 =>
    if r1 = x5 then (
      j_X4_newcomer_153 F k113 (lp_X4_newcomer_130 F k113 x3 x5 x8 N) x3 x5 x6 x7 x8 x9 (1 : Int32) s2
    ) else (
      j_X4_newcomer_153 F k113 (lp_X4_newcomer_130 F k113 x3 x5 x8 N) x3 x5 x6 x7 x8 x9 (0 : Int32) s2
    )
  )
  ) := rfl
noncomputable def j_X4_newcomer_195 (F : Nat) (x3 : Int32) (x5 : Int32) (x6 : Int32) (x7 : Int32) (σ : Mem) : Option (Int32 × Mem) :=
  wt_bnd (f_X4_stand F x5 (0 : Int32) (23 : Int32) (9 : Int32) σ) fun r3 s4 =>
  wt_bnd (f_X4_again F s4) fun r5 s6 =>
  if x3 = 0 then (
    some (x7, s6)
  ) else (
    some (x6, s6)
  )
theorem j_X4_newcomer_195_e {F : Nat} {x3 : Int32} {x5 : Int32} {x6 : Int32} {x7 : Int32} {σ : Mem} : j_X4_newcomer_195 F x3 x5 x6 x7 σ = (
  wt_bnd (f_X4_stand F x5 (0 : Int32) (23 : Int32) (9 : Int32) σ) fun r3 s4 =>
  wt_bnd (f_X4_again F s4) fun r5 s6 =>
  if x3 = 0 then (
    some (x7, s6)
  ) else (
    some (x6, s6)
  )
  ) := rfl
noncomputable def lp_X4_newcomer_113 (F : Nat) (x3 : Int32) (x5 : Int32) : Nat → Int32 → Int32 → Int32 → Mem → Option (Int32 × Mem) := fun N => Nat.rec (motive := fun _ => Int32 → Int32 → Int32 → Mem → Option (Int32 × Mem)) (fun _ _ _ _ => none) (fun _ ih x6 x7 x8 σ =>
  if (999 : Int32) < x8 then (
    j_X4_newcomer_195 F x3 x5 x6 x7 σ
  ) else (
    if 0 ≤ x7 then (
      j_X4_newcomer_195 F x3 x5 x6 x7 σ
    ) else (
      lp_X4_newcomer_130 F ih x3 x5 x8 F x6 x7 (7 : Int32) σ
    )
  )
  ) N
theorem lp_X4_newcomer_113_s {F N : Nat} {x3 : Int32} {x5 : Int32} {x6 : Int32} {x7 : Int32} {x8 : Int32} {σ : Mem} : lp_X4_newcomer_113 F x3 x5 (N + 1) x6 x7 x8 σ = (
  if (999 : Int32) < x8 then (
    j_X4_newcomer_195 F x3 x5 x6 x7 σ
  ) else (
    if 0 ≤ x7 then (
      j_X4_newcomer_195 F x3 x5 x6 x7 σ
    ) else (
      lp_X4_newcomer_130 F (lp_X4_newcomer_113 F x3 x5 N) x3 x5 x8 F x6 x7 (7 : Int32) σ
    )
  )
  ) := rfl
noncomputable def j_X4_newcomer_58 (F : Nat) (x1 : Int32) (x2 : Int32) (x3 : Int32) (t0 : Int32) (σ : Mem) : Option (Int32 × Mem) :=
  if 0 ≤ t0 then (
    wt_bnd (f_X4_think F σ) fun r7 s8 =>
    wt_bnd (f_X4_lookerComes F x1 (5 : Int32) s8) fun r9 s10 =>
    wt_bnd (f_X4_stand F (σ 101 3) (0 : Int32) (23 : Int32) x2 s10) fun r11 s12 =>
    wt_bnd (f_X4_layBrings F s12) fun r13 s14 =>
    lp_X4_newcomer_113 F x3 (σ 101 3) F (-9 : Int32) (-9 : Int32) (0 : Int32) s14
  ) else (
    wt_bnd (f_X4_refuse F t0 σ) fun r15 s16 =>
    some (r15, s16)
  )
theorem j_X4_newcomer_58_e {F : Nat} {x1 : Int32} {x2 : Int32} {x3 : Int32} {t0 : Int32} {σ : Mem} : j_X4_newcomer_58 F x1 x2 x3 t0 σ = (
  if 0 ≤ t0 then (
    wt_bnd (f_X4_think F σ) fun r7 s8 =>
    wt_bnd (f_X4_lookerComes F x1 (5 : Int32) s8) fun r9 s10 =>
    wt_bnd (f_X4_stand F (σ 101 3) (0 : Int32) (23 : Int32) x2 s10) fun r11 s12 =>
    wt_bnd (f_X4_layBrings F s12) fun r13 s14 =>
    lp_X4_newcomer_113 F x3 (σ 101 3) F (-9 : Int32) (-9 : Int32) (0 : Int32) s14
  ) else (
    wt_bnd (f_X4_refuse F t0 σ) fun r15 s16 =>
    some (r15, s16)
  )
  ) := rfl
noncomputable def j_X4_newcomer_39 (F : Nat) (x1 : Int32) (x2 : Int32) (x3 : Int32) (σ : Mem) : Option (Int32 × Mem) :=
  j_X4_newcomer_58 F x1 x2 x3 (-2 : Int32) σ
theorem j_X4_newcomer_39_e {F : Nat} {x1 : Int32} {x2 : Int32} {x3 : Int32} {σ : Mem} : j_X4_newcomer_39 F x1 x2 x3 σ = (
  j_X4_newcomer_58 F x1 x2 x3 (-2 : Int32) σ
  ) := rfl
noncomputable def f_X4_newcomer (F : Nat) (x1 : Int32) (x2 : Int32) (x3 : Int32) (σ : Mem) : Option (Int32 × Mem) :=
  wt_lt (up2 σ 101 10 (0 : Int32)) fun s17 =>
  wt_bnd (f_X4_isPane F x2 s17) fun r18 s19 =>
  if r18 = 0 then (
    j_X4_newcomer_58 F x1 x2 x3 (-1 : Int32) s19
  ) else (
    wt_bnd (f_X4_in F (Int32.toInt64 x1) (0 : Int64) (5 : Int64) s19) fun r20 s21 =>
    if r20 = 0 then (
      j_X4_newcomer_39 F x1 x2 x3 s21
    ) else (
      wt_bnd (f_X4_in F (Int32.toInt64 x3) (0 : Int64) (1 : Int64) s21) fun r22 s23 =>
      if r22 = 0 then (
        j_X4_newcomer_39 F x1 x2 x3 s23
      ) else (
        if (s23 101 3) = (5 : Int32) then (
          j_X4_newcomer_58 F x1 x2 x3 (-3 : Int32) s23
        ) else (
          j_X4_newcomer_58 F x1 x2 x3 (0 : Int32) s23
        )
      )
    )
  )
theorem f_X4_newcomer_e {F : Nat} {x1 : Int32} {x2 : Int32} {x3 : Int32} {σ : Mem} : f_X4_newcomer F x1 x2 x3 σ = (
  wt_lt (up2 σ 101 10 (0 : Int32)) fun s17 =>
  wt_bnd (f_X4_isPane F x2 s17) fun r18 s19 =>
  if r18 = 0 then (
    j_X4_newcomer_58 F x1 x2 x3 (-1 : Int32) s19
  ) else (
    wt_bnd (f_X4_in F (Int32.toInt64 x1) (0 : Int64) (5 : Int64) s19) fun r20 s21 =>
    if r20 = 0 then (
      j_X4_newcomer_39 F x1 x2 x3 s21
    ) else (
      wt_bnd (f_X4_in F (Int32.toInt64 x3) (0 : Int64) (1 : Int64) s21) fun r22 s23 =>
      if r22 = 0 then (
        j_X4_newcomer_39 F x1 x2 x3 s23
      ) else (
        if (s23 101 3) = (5 : Int32) then (
          j_X4_newcomer_58 F x1 x2 x3 (-3 : Int32) s23
        ) else (
          j_X4_newcomer_58 F x1 x2 x3 (0 : Int32) s23
        )
      )
    )
  )
  ) := rfl
noncomputable def lp_X4_broughtToAll_4 (F : Nat) (x1 : Int32) : Nat → Int32 → Int32 → Mem → Option (Int32 × Mem) := fun N => Nat.rec (motive := fun _ => Int32 → Int32 → Mem → Option (Int32 × Mem)) (fun _ _ _ => none) (fun _ ih x2 x3 σ =>
  if (σ 101 3) ≤ x3 then (
    some (x2, σ)
  ) else (
    wt_chk (((8 : Int32) * x3) + x1) 40 <|
    wt_lt (x2 + (σ 109 (Int32.toNatClampNeg (((8 : Int32) * x3) + x1)))) fun z2 =>
    ih z2 (x3 + (1 : Int32)) σ
  )
  ) N
theorem lp_X4_broughtToAll_4_s {F N : Nat} {x1 : Int32} {x2 : Int32} {x3 : Int32} {σ : Mem} : lp_X4_broughtToAll_4 F x1 (N + 1) x2 x3 σ = (
  if (σ 101 3) ≤ x3 then (
    some (x2, σ)
  ) else (
    wt_chk (((8 : Int32) * x3) + x1) 40 <|
    wt_lt (x2 + (σ 109 (Int32.toNatClampNeg (((8 : Int32) * x3) + x1)))) fun z2 =>
    (lp_X4_broughtToAll_4 F x1 N) z2 (x3 + (1 : Int32)) σ
  )
  ) := rfl
noncomputable def f_X4_broughtToAll (F : Nat) (x1 : Int32) (σ : Mem) : Option (Int32 × Mem) :=
  lp_X4_broughtToAll_4 F x1 F (0 : Int32) (0 : Int32) σ
theorem f_X4_broughtToAll_e {F : Nat} {x1 : Int32} {σ : Mem} : f_X4_broughtToAll F x1 σ = (
  lp_X4_broughtToAll_4 F x1 F (0 : Int32) (0 : Int32) σ
  ) := rfl
noncomputable def j_X4_mostSeen_54 (F : Nat) (k30 : Int32 → Int32 → Mem → Option (Int32 × Mem)) (x1 : Int32) (x3 : Int32) (t0 : Int32) (σ : Mem) : Option (Int32 × Mem) :=
  k30 t0 (x3 + (1 : Int32)) σ
theorem j_X4_mostSeen_54_e {F : Nat} {k30 : Int32 → Int32 → Mem → Option (Int32 × Mem)} {x1 : Int32} {x3 : Int32} {t0 : Int32} {σ : Mem} : j_X4_mostSeen_54 F k30 x1 x3 t0 σ = (
  k30 t0 (x3 + (1 : Int32)) σ
  ) := rfl
noncomputable def lp_X4_mostSeen_30 (F : Nat) (x1 : Int32) : Nat → Int32 → Int32 → Mem → Option (Int32 × Mem) := fun N => Nat.rec (motive := fun _ => Int32 → Int32 → Mem → Option (Int32 × Mem)) (fun _ _ _ => none) (fun _ ih x2 x3 σ =>
  if (8 : Int32) ≤ x3 then (
    if x1 = 0 then (
      some (x2, σ)
    ) else (
      wt_bnd (f_X4_broughtToAll F x2 σ) fun r1 s2 =>
      some (r1, s2)
    )
  ) else (
    wt_bnd (f_X4_broughtToAll F x3 σ) fun r3 s4 =>
    wt_bnd (f_X4_broughtToAll F x2 s4) fun r5 s6 =>
    if r3 ≤ r5 then (
      j_X4_mostSeen_54 F ih x1 x3 x2 s6
    ) else (
      j_X4_mostSeen_54 F ih x1 x3 x3 s6
    )
  )
  ) N
theorem lp_X4_mostSeen_30_s {F N : Nat} {x1 : Int32} {x2 : Int32} {x3 : Int32} {σ : Mem} : lp_X4_mostSeen_30 F x1 (N + 1) x2 x3 σ = (
  if (8 : Int32) ≤ x3 then (
    if x1 = 0 then (
      some (x2, σ)
    ) else (
      wt_bnd (f_X4_broughtToAll F x2 σ) fun r1 s2 =>
      some (r1, s2)
    )
  ) else (
    wt_bnd (f_X4_broughtToAll F x3 σ) fun r3 s4 =>
    wt_bnd (f_X4_broughtToAll F x2 s4) fun r5 s6 =>
    if r3 ≤ r5 then (
      j_X4_mostSeen_54 F (lp_X4_mostSeen_30 F x1 N) x1 x3 x2 s6
    ) else (
      j_X4_mostSeen_54 F (lp_X4_mostSeen_30 F x1 N) x1 x3 x3 s6
    )
  )
  ) := rfl
noncomputable def f_X4_mostSeen (F : Nat) (x1 : Int32) (σ : Mem) : Option (Int32 × Mem) :=
  wt_lt (up2 σ 101 10 (0 : Int32)) fun s7 =>
  wt_bnd (f_X4_in F (Int32.toInt64 x1) (0 : Int64) (1 : Int64) s7) fun r8 s9 =>
  if r8 = 0 then (
    wt_bnd (f_X4_refuse F (-2 : Int32) s9) fun r12 s13 =>
    some (r12, s13)
  ) else (
    wt_bnd (f_X4_layBrings F s9) fun r10 s11 =>
    lp_X4_mostSeen_30 F x1 F (0 : Int32) (1 : Int32) s11
  )
theorem f_X4_mostSeen_e {F : Nat} {x1 : Int32} {σ : Mem} : f_X4_mostSeen F x1 σ = (
  wt_lt (up2 σ 101 10 (0 : Int32)) fun s7 =>
  wt_bnd (f_X4_in F (Int32.toInt64 x1) (0 : Int64) (1 : Int64) s7) fun r8 s9 =>
  if r8 = 0 then (
    wt_bnd (f_X4_refuse F (-2 : Int32) s9) fun r12 s13 =>
    some (r12, s13)
  ) else (
    wt_bnd (f_X4_layBrings F s9) fun r10 s11 =>
    lp_X4_mostSeen_30 F x1 F (0 : Int32) (1 : Int32) s11
  )
  ) := rfl
noncomputable def j_X4_duels_58 (F : Nat) (k25 : Int32 → Int32 → Mem → Option (Int32 × Mem)) (x1 : Int32) (x2 : Int32) (x4 : Int32) (t0 : Int32) (t1 : Int32) (σ : Mem) : Option (Int32 × Mem) :=
  k25 (t0 + t1) (x4 + (1 : Int32)) σ
theorem j_X4_duels_58_e {F : Nat} {k25 : Int32 → Int32 → Mem → Option (Int32 × Mem)} {x1 : Int32} {x2 : Int32} {x4 : Int32} {t0 : Int32} {t1 : Int32} {σ : Mem} : j_X4_duels_58 F k25 x1 x2 x4 t0 t1 σ = (
  k25 (t0 + t1) (x4 + (1 : Int32)) σ
  ) := rfl
noncomputable def j_X4_duels_57 (F : Nat) (k25 : Int32 → Int32 → Mem → Option (Int32 × Mem)) (x1 : Int32) (x2 : Int32) (x4 : Int32) (t0 : Int32) (σ : Mem) : Option (Int32 × Mem) :=
  j_X4_duels_58 F k25 x1 x2 x4 t0 (0 : Int32) σ
theorem j_X4_duels_57_e {F : Nat} {k25 : Int32 → Int32 → Mem → Option (Int32 × Mem)} {x1 : Int32} {x2 : Int32} {x4 : Int32} {t0 : Int32} {σ : Mem} : j_X4_duels_57 F k25 x1 x2 x4 t0 σ = (
  j_X4_duels_58 F k25 x1 x2 x4 t0 (0 : Int32) σ
  ) := rfl
noncomputable def lp_X4_duels_25 (F : Nat) (x1 : Int32) (x2 : Int32) : Nat → Int32 → Int32 → Mem → Option (Int32 × Mem) := fun N => Nat.rec (motive := fun _ => Int32 → Int32 → Mem → Option (Int32 × Mem)) (fun _ _ _ => none) (fun _ ih x3 x4 σ =>
  if (8 : Int32) ≤ x4 then (
    some (x3, σ)
  ) else (
    wt_bnd (f_X4_bringsOf F x1 x4 σ) fun r1 s2 =>
    if r1 ≤ 0 then (
      j_X4_duels_57 F ih x1 x2 x4 x3 s2
    ) else (
      wt_bnd (f_X4_bringsOf F x2 x4 s2) fun r3 s4 =>
      if r3 ≤ 0 then (
        j_X4_duels_57 F ih x1 x2 x4 x3 s4
      ) else (
        j_X4_duels_58 F ih x1 x2 x4 x3 (1 : Int32) s4
      )
    )
  )
  ) N
theorem lp_X4_duels_25_s {F N : Nat} {x1 : Int32} {x2 : Int32} {x3 : Int32} {x4 : Int32} {σ : Mem} : lp_X4_duels_25 F x1 x2 (N + 1) x3 x4 σ = (
  if (8 : Int32) ≤ x4 then (
    some (x3, σ)
  ) else (
    wt_bnd (f_X4_bringsOf F x1 x4 σ) fun r1 s2 =>
    if r1 ≤ 0 then (
      j_X4_duels_57 F (lp_X4_duels_25 F x1 x2 N) x1 x2 x4 x3 s2
    ) else (
      wt_bnd (f_X4_bringsOf F x2 x4 s2) fun r3 s4 =>
      if r3 ≤ 0 then (
        j_X4_duels_57 F (lp_X4_duels_25 F x1 x2 N) x1 x2 x4 x3 s4
      ) else (
        j_X4_duels_58 F (lp_X4_duels_25 F x1 x2 N) x1 x2 x4 x3 (1 : Int32) s4
      )
    )
  )
  ) := rfl
noncomputable def f_X4_duels (F : Nat) (x1 : Int32) (x2 : Int32) (σ : Mem) : Option (Int32 × Mem) :=
  wt_lt (up2 σ 101 10 (0 : Int32)) fun s5 =>
  wt_bnd (f_X4_areTwo F x1 x2 s5) fun r6 s7 =>
  if r6 = 0 then (
    wt_bnd (f_X4_refuse F (-1 : Int32) s7) fun r8 s9 =>
    some (r8, s9)
  ) else (
    lp_X4_duels_25 F x1 x2 F (0 : Int32) (0 : Int32) s7
  )
theorem f_X4_duels_e {F : Nat} {x1 : Int32} {x2 : Int32} {σ : Mem} : f_X4_duels F x1 x2 σ = (
  wt_lt (up2 σ 101 10 (0 : Int32)) fun s5 =>
  wt_bnd (f_X4_areTwo F x1 x2 s5) fun r6 s7 =>
  if r6 = 0 then (
    wt_bnd (f_X4_refuse F (-1 : Int32) s7) fun r8 s9 =>
    some (r8, s9)
  ) else (
    lp_X4_duels_25 F x1 x2 F (0 : Int32) (0 : Int32) s7
  )
  ) := rfl
noncomputable def j_X4_row_31 (F : Nat) (σ : Mem) : Option (Int32 × Mem) :=
  wt_bnd (f_X4_refuse F (-6 : Int32) σ) fun r1 s2 =>
  some (r1, s2)
theorem j_X4_row_31_e {F : Nat} {σ : Mem} : j_X4_row_31 F σ = (
  wt_bnd (f_X4_refuse F (-6 : Int32) σ) fun r1 s2 =>
  some (r1, s2)
  ) := rfl
noncomputable def f_X4_row (F : Nat) (x1 : Int32) (σ : Mem) : Option (Int32 × Mem) :=
  wt_lt (up2 σ 101 10 (0 : Int32)) fun s3 =>
  if 0 ≤ x1 then (
    if (99 : Int32) < x1 then (
      j_X4_row_31 F s3
    ) else (
      if (s3 101 34) = (12 : Int32) then (
        j_X4_row_31 F s3
      ) else (
        wt_chk (s3 101 34) 12 <|
        wt_lt (up2 s3 121 (Int32.toNatClampNeg (s3 101 34)) x1) fun s5 =>
        wt_lt (up2 s5 101 34 ((s5 101 34) + (1 : Int32))) fun s6 =>
        some ((s6 101 34), s6)
      )
    )
  ) else (
    wt_bnd (f_X4_refuse F (-4 : Int32) s3) fun r7 s8 =>
    some (r7, s8)
  )
theorem f_X4_row_e {F : Nat} {x1 : Int32} {σ : Mem} : f_X4_row F x1 σ = (
  wt_lt (up2 σ 101 10 (0 : Int32)) fun s3 =>
  if 0 ≤ x1 then (
    if (99 : Int32) < x1 then (
      j_X4_row_31 F s3
    ) else (
      if (s3 101 34) = (12 : Int32) then (
        j_X4_row_31 F s3
      ) else (
        wt_chk (s3 101 34) 12 <|
        wt_lt (up2 s3 121 (Int32.toNatClampNeg (s3 101 34)) x1) fun s5 =>
        wt_lt (up2 s5 101 34 ((s5 101 34) + (1 : Int32))) fun s6 =>
        some ((s6 101 34), s6)
      )
    )
  ) else (
    wt_bnd (f_X4_refuse F (-4 : Int32) s3) fun r7 s8 =>
    some (r7, s8)
  )
  ) := rfl
noncomputable def j_X4_judge_65 (F : Nat) (k34 : Int32 → Mem → Option (Int32 × Mem)) (x1 : Int32) (x2 : Int32) (x3 : Int32) (t0 : Int32) (t1 : Int32) (σ : Mem) : Option (Int32 × Mem) :=
  if t0 = t1 then (
    k34 (x3 + (1 : Int32)) σ
  ) else (
    some (x3, σ)
  )
theorem j_X4_judge_65_e {F : Nat} {k34 : Int32 → Mem → Option (Int32 × Mem)} {x1 : Int32} {x2 : Int32} {x3 : Int32} {t0 : Int32} {t1 : Int32} {σ : Mem} : j_X4_judge_65 F k34 x1 x2 x3 t0 t1 σ = (
  if t0 = t1 then (
    k34 (x3 + (1 : Int32)) σ
  ) else (
    some (x3, σ)
  )
  ) := rfl
noncomputable def lp_X4_judge_34 (F : Nat) (x1 : Int32) (x2 : Int32) : Nat → Int32 → Mem → Option (Int32 × Mem) := fun N => Nat.rec (motive := fun _ => Int32 → Mem → Option (Int32 × Mem)) (fun _ _ => none) (fun _ ih x3 σ =>
  if x2 ≤ x3 then (
    some ((-9 : Int32), σ)
  ) else (
    wt_bnd (f_X4_ownerIn F x1 x3 σ) fun r1 s2 =>
    wt_chk x3 12 <|
    if 0 ≤ r1 then (
      j_X4_judge_65 F ih x1 x2 x3 (s2 121 (Int32.toNatClampNeg x3)) r1 s2
    ) else (
      j_X4_judge_65 F ih x1 x2 x3 (s2 121 (Int32.toNatClampNeg x3)) (99 : Int32) s2
    )
  )
  ) N
theorem lp_X4_judge_34_s {F N : Nat} {x1 : Int32} {x2 : Int32} {x3 : Int32} {σ : Mem} : lp_X4_judge_34 F x1 x2 (N + 1) x3 σ = (
  if x2 ≤ x3 then (
    some ((-9 : Int32), σ)
  ) else (
    wt_bnd (f_X4_ownerIn F x1 x3 σ) fun r1 s2 =>
    wt_chk x3 12 <|
    if 0 ≤ r1 then (
      j_X4_judge_65 F (lp_X4_judge_34 F x1 x2 N) x1 x2 x3 (s2 121 (Int32.toNatClampNeg x3)) r1 s2
    ) else (
      j_X4_judge_65 F (lp_X4_judge_34 F x1 x2 N) x1 x2 x3 (s2 121 (Int32.toNatClampNeg x3)) (99 : Int32) s2
    )
  )
  ) := rfl
noncomputable def f_X4_judge (F : Nat) (x1 : Int32) (σ : Mem) : Option (Int32 × Mem) :=
  wt_lt (up2 σ 101 10 (0 : Int32)) fun s4 =>
  wt_bnd (f_X4_isView F x1 s4) fun r5 s6 =>
  if r5 = 0 then (
    wt_bnd (f_X4_refuse F (-1 : Int32) s6) fun r10 s11 =>
    some (r10, s11)
  ) else (
    wt_lt (up2 s6 101 34 (0 : Int32)) fun s7 =>
    wt_bnd (f_X4_layBrings F s7) fun r8 s9 =>
    lp_X4_judge_34 F x1 (s6 101 34) F (0 : Int32) s9
  )
theorem f_X4_judge_e {F : Nat} {x1 : Int32} {σ : Mem} : f_X4_judge F x1 σ = (
  wt_lt (up2 σ 101 10 (0 : Int32)) fun s4 =>
  wt_bnd (f_X4_isView F x1 s4) fun r5 s6 =>
  if r5 = 0 then (
    wt_bnd (f_X4_refuse F (-1 : Int32) s6) fun r10 s11 =>
    some (r10, s11)
  ) else (
    wt_lt (up2 s6 101 34 (0 : Int32)) fun s7 =>
    wt_bnd (f_X4_layBrings F s7) fun r8 s9 =>
    lp_X4_judge_34 F x1 (s6 101 34) F (0 : Int32) s9
  )
  ) := rfl
noncomputable def f_X4_clear (F : Nat) (σ : Mem) : Option (Int32 × Mem) :=
  wt_lt (up2 σ 101 10 (0 : Int32)) fun s1 =>
  wt_lt (up2 s1 101 34 (0 : Int32)) fun s2 =>
  some ((s1 101 34), s2)
theorem f_X4_clear_e {F : Nat} {σ : Mem} : f_X4_clear F σ = (
  wt_lt (up2 σ 101 10 (0 : Int32)) fun s1 =>
  wt_lt (up2 s1 101 34 (0 : Int32)) fun s2 =>
  some ((s1 101 34), s2)
  ) := rfl
noncomputable def f_X4_drawBelow (F : Nat) (x1 : Int32) (σ : Mem) : Option (Int32 × Mem) :=
  wt_lt (up2 σ 101 35 (((σ 101 35) * (1103515245 : Int32)) + (12345 : Int32))) fun s1 =>
  wt_nz x1 <|
  some (((((s1 101 35) &&& (2147483647 : Int32)) / (65536 : Int32)) - (((s1 101 35) &&& (2147483647 : Int32)) / (65536 : Int32)) / x1 * x1), s1)
theorem f_X4_drawBelow_e {F : Nat} {x1 : Int32} {σ : Mem} : f_X4_drawBelow F x1 σ = (
  wt_lt (up2 σ 101 35 (((σ 101 35) * (1103515245 : Int32)) + (12345 : Int32))) fun s1 =>
  wt_nz x1 <|
  some (((((s1 101 35) &&& (2147483647 : Int32)) / (65536 : Int32)) - (((s1 101 35) &&& (2147483647 : Int32)) / (65536 : Int32)) / x1 * x1), s1)
  ) := rfl
noncomputable def j_X4_lots_120 (F : Nat) (k46 : Int32 → Int32 → Mem → Option (Int32 × Mem)) (k62 : Int32 → Mem → Option (Int32 × Mem)) (k85 : Int32 → Mem → Option (Int32 × Mem)) (x1 : Int32) (x3 : Int32) (x5 : Int32) (x6 : Int32) (x7 : Int32) (x8 : Int32) (t1 : Int32) (t2 : Int32) (t3 : Int32) (σ : Mem) : Option (Int32 × Mem) :=
  wt_bnd (f_X4_drawBelow F (σ 101 1) σ) fun r1 s2 =>
  wt_bnd (f_X4_stand F t1 t2 t3 r1 s2) fun r3 s4 =>
  k85 (x8 + (1 : Int32)) s4
theorem j_X4_lots_120_e {F : Nat} {k46 : Int32 → Int32 → Mem → Option (Int32 × Mem)} {k62 : Int32 → Mem → Option (Int32 × Mem)} {k85 : Int32 → Mem → Option (Int32 × Mem)} {x1 : Int32} {x3 : Int32} {x5 : Int32} {x6 : Int32} {x7 : Int32} {x8 : Int32} {t1 : Int32} {t2 : Int32} {t3 : Int32} {σ : Mem} : j_X4_lots_120 F k46 k62 k85 x1 x3 x5 x6 x7 x8 t1 t2 t3 σ = (
  wt_bnd (f_X4_drawBelow F (σ 101 1) σ) fun r1 s2 =>
  wt_bnd (f_X4_stand F t1 t2 t3 r1 s2) fun r3 s4 =>
  k85 (x8 + (1 : Int32)) s4
  ) := rfl
noncomputable def lp_X4_lots_85 (F : Nat) (k46 : Int32 → Int32 → Mem → Option (Int32 × Mem)) (k62 : Int32 → Mem → Option (Int32 × Mem)) (x1 : Int32) (x3 : Int32) (x5 : Int32) (x6 : Int32) (x7 : Int32) : Nat → Int32 → Mem → Option (Int32 × Mem) := fun N => Nat.rec (motive := fun _ => Int32 → Mem → Option (Int32 × Mem)) (fun _ _ => none) (fun _ ih x8 σ =>
  if (4 : Int32) ≤ x8 then (
    k62 (x7 + (1 : Int32)) σ
  ) else (
    wt_bnd (f_X4_drawBelow F (24 : Int32) σ) fun r5 s6 =>
    if r5 ≤ (20 : Int32) then (
      j_X4_lots_120 F k46 k62 ih x1 x3 x5 x6 x7 x8 x7 r5 (r5 + (3 : Int32)) s6
    ) else (
      j_X4_lots_120 F k46 k62 ih x1 x3 x5 x6 x7 x8 x7 r5 (23 : Int32) s6
    )
  )
  ) N
theorem lp_X4_lots_85_s {F N : Nat} {k46 : Int32 → Int32 → Mem → Option (Int32 × Mem)} {k62 : Int32 → Mem → Option (Int32 × Mem)} {x1 : Int32} {x3 : Int32} {x5 : Int32} {x6 : Int32} {x7 : Int32} {x8 : Int32} {σ : Mem} : lp_X4_lots_85 F k46 k62 x1 x3 x5 x6 x7 (N + 1) x8 σ = (
  if (4 : Int32) ≤ x8 then (
    k62 (x7 + (1 : Int32)) σ
  ) else (
    wt_bnd (f_X4_drawBelow F (24 : Int32) σ) fun r5 s6 =>
    if r5 ≤ (20 : Int32) then (
      j_X4_lots_120 F k46 k62 (lp_X4_lots_85 F k46 k62 x1 x3 x5 x6 x7 N) x1 x3 x5 x6 x7 x8 x7 r5 (r5 + (3 : Int32)) s6
    ) else (
      j_X4_lots_120 F k46 k62 (lp_X4_lots_85 F k46 k62 x1 x3 x5 x6 x7 N) x1 x3 x5 x6 x7 x8 x7 r5 (23 : Int32) s6
    )
  )
  ) := rfl
noncomputable def j_X4_lots_195 (F : Nat) (k46 : Int32 → Int32 → Mem → Option (Int32 × Mem)) (x1 : Int32) (x3 : Int32) (x6 : Int32) (t0 : Int32) (t1 : Int32) (σ : Mem) : Option (Int32 × Mem) :=
  k46 (t0 + t1) (x6 + (1 : Int32)) σ
theorem j_X4_lots_195_e {F : Nat} {k46 : Int32 → Int32 → Mem → Option (Int32 × Mem)} {x1 : Int32} {x3 : Int32} {x6 : Int32} {t0 : Int32} {t1 : Int32} {σ : Mem} : j_X4_lots_195 F k46 x1 x3 x6 t0 t1 σ = (
  k46 (t0 + t1) (x6 + (1 : Int32)) σ
  ) := rfl
noncomputable def lp_X4_lots_62 (F : Nat) (k46 : Int32 → Int32 → Mem → Option (Int32 × Mem)) (x1 : Int32) (x3 : Int32) (x5 : Int32) (x6 : Int32) : Nat → Int32 → Mem → Option (Int32 × Mem) := fun N => Nat.rec (motive := fun _ => Int32 → Mem → Option (Int32 × Mem)) (fun _ _ => none) (fun _ ih x7 σ =>
  if (σ 101 3) ≤ x7 then (
    wt_bnd (f_X4_layBrings F σ) fun r7 s8 =>
    wt_bnd (f_X4_richestIn F (99 : Int32) s8) fun r9 s10 =>
    if x3 = 0 then (
      wt_bnd (f_X4_viewsIn F (-9 : Int32) (99 : Int32) s10) fun r13 s14 =>
      wt_bnd (f_X4_onesOf F r13 s14) fun r15 s16 =>
      j_X4_lots_195 F k46 x1 x3 x6 x5 ((8 : Int32) - r15) s16
    ) else (
      if 0 ≤ r9 then (
        wt_bnd (f_X4_worthIn F r9 (99 : Int32) s10) fun r11 s12 =>
        j_X4_lots_195 F k46 x1 x3 x6 x5 r11 s12
      ) else (
        j_X4_lots_195 F k46 x1 x3 x6 x5 (0 : Int32) s10
      )
    )
  ) else (
    wt_bnd (f_X4_stand F x7 (0 : Int32) (23 : Int32) (9 : Int32) σ) fun r17 s18 =>
    lp_X4_lots_85 F k46 ih x1 x3 x5 x6 x7 F (0 : Int32) s18
  )
  ) N
theorem lp_X4_lots_62_s {F N : Nat} {k46 : Int32 → Int32 → Mem → Option (Int32 × Mem)} {x1 : Int32} {x3 : Int32} {x5 : Int32} {x6 : Int32} {x7 : Int32} {σ : Mem} : lp_X4_lots_62 F k46 x1 x3 x5 x6 (N + 1) x7 σ = (
  if (σ 101 3) ≤ x7 then (
    wt_bnd (f_X4_layBrings F σ) fun r7 s8 =>
    wt_bnd (f_X4_richestIn F (99 : Int32) s8) fun r9 s10 =>
    if x3 = 0 then (
      wt_bnd (f_X4_viewsIn F (-9 : Int32) (99 : Int32) s10) fun r13 s14 =>
      wt_bnd (f_X4_onesOf F r13 s14) fun r15 s16 =>
      j_X4_lots_195 F k46 x1 x3 x6 x5 ((8 : Int32) - r15) s16
    ) else (
      if 0 ≤ r9 then (
        wt_bnd (f_X4_worthIn F r9 (99 : Int32) s10) fun r11 s12 =>
        j_X4_lots_195 F k46 x1 x3 x6 x5 r11 s12
      ) else (
        j_X4_lots_195 F k46 x1 x3 x6 x5 (0 : Int32) s10
      )
    )
  ) else (
    wt_bnd (f_X4_stand F x7 (0 : Int32) (23 : Int32) (9 : Int32) σ) fun r17 s18 =>
    lp_X4_lots_85 F k46 (lp_X4_lots_62 F k46 x1 x3 x5 x6 N) x1 x3 x5 x6 x7 F (0 : Int32) s18
  )
  ) := rfl
noncomputable def j_X4_lots_204 (F : Nat) (x5 : Int32) (σ : Mem) : Option (Int32 × Mem) :=
  wt_bnd (f_X4_again F σ) fun r19 s20 =>
  some (x5, s20)
theorem j_X4_lots_204_e {F : Nat} {x5 : Int32} {σ : Mem} : j_X4_lots_204 F x5 σ = (
  wt_bnd (f_X4_again F σ) fun r19 s20 =>
  some (x5, s20)
  ) := rfl
noncomputable def lp_X4_lots_46 (F : Nat) (x1 : Int32) (x3 : Int32) : Nat → Int32 → Int32 → Mem → Option (Int32 × Mem) := fun N => Nat.rec (motive := fun _ => Int32 → Int32 → Mem → Option (Int32 × Mem)) (fun _ _ _ => none) (fun _ ih x5 x6 σ =>
  if x1 ≤ x6 then (
    j_X4_lots_204 F x5 σ
  ) else (
    if (σ 101 1) ≤ 0 then (
      j_X4_lots_204 F x5 σ
    ) else (
      lp_X4_lots_62 F ih x1 x3 x5 x6 F (0 : Int32) σ
    )
  )
  ) N
theorem lp_X4_lots_46_s {F N : Nat} {x1 : Int32} {x3 : Int32} {x5 : Int32} {x6 : Int32} {σ : Mem} : lp_X4_lots_46 F x1 x3 (N + 1) x5 x6 σ = (
  if x1 ≤ x6 then (
    j_X4_lots_204 F x5 σ
  ) else (
    if (σ 101 1) ≤ 0 then (
      j_X4_lots_204 F x5 σ
    ) else (
      lp_X4_lots_62 F (lp_X4_lots_46 F x1 x3 N) x1 x3 x5 x6 F (0 : Int32) σ
    )
  )
  ) := rfl
noncomputable def f_X4_lots (F : Nat) (x1 : Int32) (x2 : Int32) (x3 : Int32) (σ : Mem) : Option (Int32 × Mem) :=
  wt_lt (up2 σ 101 10 (0 : Int32)) fun s21 =>
  wt_bnd (f_X4_wrongNumber F x1 (1 : Int32) (20 : Int32) s21) fun r22 s23 =>
  wt_bnd (f_X4_wrongBit F r22 x3 (1 : Int32) s23) fun r24 s25 =>
  if 0 ≤ r24 then (
    wt_lt (up2 s25 101 35 x2) fun s26 =>
    wt_bnd (f_X4_think F s26) fun r27 s28 =>
    lp_X4_lots_46 F x1 x3 F (0 : Int32) (0 : Int32) s28
  ) else (
    wt_bnd (f_X4_refuse F r24 s25) fun r29 s30 =>
    some (r29, s30)
  )
theorem f_X4_lots_e {F : Nat} {x1 : Int32} {x2 : Int32} {x3 : Int32} {σ : Mem} : f_X4_lots F x1 x2 x3 σ = (
  wt_lt (up2 σ 101 10 (0 : Int32)) fun s21 =>
  wt_bnd (f_X4_wrongNumber F x1 (1 : Int32) (20 : Int32) s21) fun r22 s23 =>
  wt_bnd (f_X4_wrongBit F r22 x3 (1 : Int32) s23) fun r24 s25 =>
  if 0 ≤ r24 then (
    wt_lt (up2 s25 101 35 x2) fun s26 =>
    wt_bnd (f_X4_think F s26) fun r27 s28 =>
    lp_X4_lots_46 F x1 x3 F (0 : Int32) (0 : Int32) s28
  ) else (
    wt_bnd (f_X4_refuse F r24 s25) fun r29 s30 =>
    some (r29, s30)
  )
  ) := rfl
noncomputable def lp_X4_count_99 (F : Nat) : Nat → Int32 → Int32 → Mem → Option (Int32 × Mem) := fun N => Nat.rec (motive := fun _ => Int32 → Int32 → Mem → Option (Int32 × Mem)) (fun _ _ _ => none) (fun _ ih x2 x3 σ =>
  if (σ 101 3) ≤ x3 then (
    some (x2, σ)
  ) else (
    wt_bnd (f_X4_hoursOf F x3 σ) fun r1 s2 =>
    ih (x2 + r1) (x3 + (1 : Int32)) s2
  )
  ) N
theorem lp_X4_count_99_s {F N : Nat} {x2 : Int32} {x3 : Int32} {σ : Mem} : lp_X4_count_99 F (N + 1) x2 x3 σ = (
  if (σ 101 3) ≤ x3 then (
    some (x2, σ)
  ) else (
    wt_bnd (f_X4_hoursOf F x3 σ) fun r1 s2 =>
    (lp_X4_count_99 F N) (x2 + r1) (x3 + (1 : Int32)) s2
  )
  ) := rfl
noncomputable def f_X4_count (F : Nat) (x1 : Int32) (σ : Mem) : Option (Int32 × Mem) :=
  wt_lt (up2 σ 101 10 (0 : Int32)) fun s3 =>
  if x1 = (0 : Int32) then (
    some ((s3 101 1), s3)
  ) else
  if x1 = (1 : Int32) then (
    some ((s3 101 3), s3)
  ) else
  if x1 = (2 : Int32) then (
    some ((s3 101 9), s3)
  ) else
  if x1 = (3 : Int32) then (
    some ((s3 101 8), s3)
  ) else
  if x1 = (4 : Int32) then (
    wt_bnd (f_X4_owned F s3) fun r5 s6 =>
    some (r5, s6)
  ) else
  if x1 = (5 : Int32) then (
    wt_bnd (f_X4_allShown F s3) fun r7 s8 =>
    wt_bnd (f_X4_onesOf F r7 s8) fun r9 s10 =>
    some (r9, s10)
  ) else
  if x1 = (6 : Int32) then (
    lp_X4_count_99 F F (0 : Int32) (0 : Int32) s3
  ) else
  if x1 = (7 : Int32) then (
    some ((s3 101 15), s3)
  ) else
  if x1 = (8 : Int32) then (
    some ((s3 101 34), s3)
  ) else
  if x1 = (9 : Int32) then (
    some ((s3 101 30), s3)
  ) else
  (
    wt_bnd (f_X4_in F (Int32.toInt64 x1) (11 : Int64) (16 : Int64) s3) fun r11 s12 =>
    if r11 = 0 then (
      some ((-9 : Int32), s12)
    ) else (
      wt_chk (x1 - (10 : Int32)) 7 <|
      some ((s12 108 (Int32.toNatClampNeg (x1 - (10 : Int32)))), s12)
    )
  )
theorem f_X4_count_e {F : Nat} {x1 : Int32} {σ : Mem} : f_X4_count F x1 σ = (
  wt_lt (up2 σ 101 10 (0 : Int32)) fun s3 =>
  if x1 = (0 : Int32) then (
    some ((s3 101 1), s3)
  ) else
  if x1 = (1 : Int32) then (
    some ((s3 101 3), s3)
  ) else
  if x1 = (2 : Int32) then (
    some ((s3 101 9), s3)
  ) else
  if x1 = (3 : Int32) then (
    some ((s3 101 8), s3)
  ) else
  if x1 = (4 : Int32) then (
    wt_bnd (f_X4_owned F s3) fun r5 s6 =>
    some (r5, s6)
  ) else
  if x1 = (5 : Int32) then (
    wt_bnd (f_X4_allShown F s3) fun r7 s8 =>
    wt_bnd (f_X4_onesOf F r7 s8) fun r9 s10 =>
    some (r9, s10)
  ) else
  if x1 = (6 : Int32) then (
    lp_X4_count_99 F F (0 : Int32) (0 : Int32) s3
  ) else
  if x1 = (7 : Int32) then (
    some ((s3 101 15), s3)
  ) else
  if x1 = (8 : Int32) then (
    some ((s3 101 34), s3)
  ) else
  if x1 = (9 : Int32) then (
    some ((s3 101 30), s3)
  ) else
  (
    wt_bnd (f_X4_in F (Int32.toInt64 x1) (11 : Int64) (16 : Int64) s3) fun r11 s12 =>
    if r11 = 0 then (
      some ((-9 : Int32), s12)
    ) else (
      wt_chk (x1 - (10 : Int32)) 7 <|
      some ((s12 108 (Int32.toNatClampNeg (x1 - (10 : Int32)))), s12)
    )
  )
  ) := rfl
