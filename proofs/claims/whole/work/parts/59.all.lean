/-! every call, by the relation -/
section AL
variable {mem : ZM}
theorem Op.mono {F G : ZM → Option (Int32 × ZM)} {P Q : ZM → Prop} (h : Op F G mem P) (k : ∀ m, P m → Q m) : Op F G mem Q := by
  obtain ⟨r, m1, m2, e1, e2, p⟩ := h
  exact ⟨r, m1, m2, e1, e2, k m2 p⟩
theorem R_row (R : Rel mem) (a1 a2 a3 : Int32) : Op (fX6_row a1 a2 a3) (fX7_row a1 a2 a3) mem Rel := by
  obtain ⟨h, r1, r2, r3, -⟩ := id R
  exact (o_row r2 r3 a1 a2 a3).mono (fun m q => R.rows q)
theorem R_set (R : Rel mem) (a1 a2 a3 : Int32) : Op (fX6_set a1 a2 a3) (fX7_set a1 a2 a3) mem Rel := by
  obtain ⟨h, r1, r2, r3, -⟩ := id R
  exact (o_set r2 r3 a1 a2 a3).mono (fun m q => R.rows q)
theorem R_copy (R : Rel mem) (a1 a2 a3 a4 a5 : Int32) : Op (fX6_copy a1 a2 a3 a4 a5) (fX7_copy a1 a2 a3 a4 a5) mem Rel := by
  obtain ⟨h, r1, r2, r3, -⟩ := id R
  exact (o_copy r2 r3 a1 a2 a3 a4 a5).mono (fun m q => R.rows q)
theorem R_drop (R : Rel mem) (a1 : Int32) : Op (fX6_drop a1) (fX7_drop a1) mem Rel := by
  obtain ⟨h, r1, r2, r3, -⟩ := id R
  exact (o_drop r2 r3 a1).mono (fun m q => R.rows q)
theorem R_hours (R : Rel mem) (a1 : Int32) : Op (fX6_hours a1) (fX7_hours a1) mem Rel := by
  obtain ⟨h, r1, -⟩ := id R
  exact (o_hours r1 a1).mono (fun m q => R.acts q)
theorem R_light (R : Rel mem) (a1 : Int32) : Op (fX6_light a1) (fX7_light a1) mem Rel := by
  obtain ⟨h, r1, -⟩ := id R
  exact (o_light r1 a1).mono (fun m q => R.acts q)
theorem R_water (R : Rel mem) (a1 a2 : Int32) : Op (fX6_water a1 a2) (fX7_water a1 a2) mem Rel := by
  obtain ⟨h, r1, -⟩ := id R
  exact (o_water r1 a1 a2).mono (fun m q => R.acts q)
theorem R_rake (R : Rel mem) (a1 a2 : Int32) : Op (fX6_rake a1 a2) (fX7_rake a1 a2) mem Rel := by
  obtain ⟨h, r1, -⟩ := id R
  exact (o_rake r1 a1 a2).mono (fun m q => R.acts q)
theorem R_swap (R : Rel mem) (a1 a2 : Int32) : Op (fX6_swap a1 a2) (fX7_swap a1 a2) mem Rel := by
  obtain ⟨h, r1, -⟩ := id R
  exact (o_swap r1 a1 a2).mono (fun m q => R.acts q)
theorem R_wind (R : Rel mem) : Op fX6_wind fX7_wind mem Rel := by
  obtain ⟨h, r1, -⟩ := id R
  exact (o_wind r1).mono (fun m q => R.acts q)
theorem R_undo (R : Rel mem) : Op fX6_undo fX7_undo mem Rel := by
  obtain ⟨h, r1, -⟩ := id R
  exact (o_undo r1).mono (fun m q => R.acts q)
theorem R_ahead (R : Rel mem) (a1 a2 a3 : Int32) : Op (fX6_ahead a1 a2 a3) (fX7_ahead a1 a2 a3) mem Rel := by
  obtain ⟨h, r1, -⟩ := id R
  exact (o_ahead r1.1 a1 a2 a3).mono (fun m q => R.keep q)
theorem R_later (R : Rel mem) (a1 a2 : Int32) : Op (fX6_later a1 a2) (fX7_later a1 a2) mem Rel := by
  obtain ⟨h, r1, -⟩ := id R
  exact (o_later r1.1 a1 a2).mono (fun m q => R.keep q)
theorem R_when (R : Rel mem) (a1 a2 : Int32) : Op (fX6_when a1 a2) (fX7_when a1 a2) mem Rel := by
  obtain ⟨h, r1, -⟩ := id R
  exact (o_when r1.1 a1 a2).mono (fun m q => R.keep q)
theorem R_dead (R : Rel mem) (a1 : Int32) : Op (fX6_dead a1) (fX7_dead a1) mem Rel := by
  obtain ⟨h, r1, -⟩ := id R
  exact (o_dead r1.1 a1).mono (fun m q => R.keep q)
theorem R_kindle (R : Rel mem) (a1 a2 a3 : Int32) : Op (fX6_kindle a1 a2 a3) (fX7_kindle a1 a2 a3) mem Rel := by
  obtain ⟨h, r1, -⟩ := id R
  exact (o_kindle r1.1 a1 a2 a3).mono (fun m q => R.keep q)
theorem R_spare (R : Rel mem) (a1 a2 : Int32) : Op (fX6_spare a1 a2) (fX7_spare a1 a2) mem Rel := by
  obtain ⟨h, r1, -⟩ := id R
  exact (o_spare r1.1 a1 a2).mono (fun m q => R.keep q)
theorem R_laying (R : Rel mem) (a1 a2 : Int32) : Op (fX6_laying a1 a2) (fX7_laying a1 a2) mem Rel := by
  obtain ⟨h, r1, -⟩ := id R
  exact (o_laying r1.1 a1 a2).mono (fun m q => R.keep q)
theorem R_fits (R : Rel mem) (a1 a2 a3 a4 a5 : Int32) : Op (fX6_fits a1 a2 a3 a4 a5) (fX7_fits a1 a2 a3 a4 a5) mem Rel := by
  obtain ⟨h, r1, r2, r3, -⟩ := id R
  exact (o_fits r1.1 r2 r3 a1 a2 a3 a4 a5).mono (fun m q => R.keepF q)
theorem R_rain (R : Rel mem) (a1 a2 a3 a4 : Int32) : Op (fX6_rain a1 a2 a3 a4) (fX7_rain a1 a2 a3 a4) mem Rel := by
  obtain ⟨h, r1, -⟩ := id R
  exact (o_rain r1.1 a1 a2 a3 a4).mono (fun m q => R.keep q)
theorem R_drawn (R : Rel mem) (a1 a2 a3 : Int32) : Op (fX6_drawn a1 a2 a3) (fX7_drawn a1 a2 a3) mem Rel := by
  obtain ⟨h, r1, -⟩ := id R
  exact (o_drawn r1.1 a1 a2 a3).mono (fun m q => R.keep q)
theorem R_thing (R : Rel mem) (a1 a2 : Int32) : Op0 (fX6_thing a1 a2) (fX7_thing a1 a2) mem := by
  obtain ⟨h, r1, -⟩ := R
  exact o_thing r1.1 a1 a2
theorem R_place (R : Rel mem) (a1 : Int32) : Op0 (fX6_place a1) (fX7_place a1) mem := by
  obtain ⟨h, r1, -⟩ := R
  exact o_place r1.1 a1
theorem R_kind (R : Rel mem) (a1 : Int32) : Op0 (fX6_kind a1) (fX7_kind a1) mem := by
  obtain ⟨h, r1, -⟩ := R
  exact o_kind r1.1 a1
theorem R_trace (R : Rel mem) (a1 : Int32) : Op0 (fX6_trace a1) (fX7_trace a1) mem := by
  obtain ⟨h, -, -, -, -, -, r6⟩ := R
  exact o_trace r6 a1
theorem R_status (R : Rel mem) : Op0 fX6_status fX7_status mem := by
  obtain ⟨h, -, -, r3, -⟩ := R
  exact o_status r3
theorem R_fault (R : Rel mem) : Op0 fX6_fault fX7_fault mem := by
  obtain ⟨h, -, -, -, -, r5, -⟩ := R
  exact o_fault r5
end AL
