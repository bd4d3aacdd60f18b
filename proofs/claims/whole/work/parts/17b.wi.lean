theorem w_0_4 {a : Int} (h1 : -2147483648 ≤ a) (h2 : a < 2147483648) : f_X6_within (iI a) (0 : Int32) (4 : Int32) = some (if 0 ≤ a ∧ a ≤ 4 then 1 else 0) := by
  have h := c_within (a := a) (b := 0) (c := 4) h1 h2 (by omega) (by omega) (by omega) (by omega)
  rwa [show iI (0) = (0 : Int32) from rfl, show iI (4) = (4 : Int32) from rfl] at h
theorem i_0_4 {a : Int} (h1 : -2147483648 ≤ a) (h2 : a < 2147483648) : f_X7_in (iI a).toInt64 (0 : Int64) (4 : Int64) = some (if 0 ≤ a ∧ a ≤ 4 then 1 else 0) := by
  have h := m_in (a := a) (b := 0) (c := 4) h1 h2 (by omega) (by omega) (by omega) (by omega)
  rw [iI_L h1 h2]
  rwa [show iL (0) = (0 : Int64) from rfl, show iL (4) = (4 : Int64) from rfl] at h
theorem w_m9_9 {a : Int} (h1 : -2147483648 ≤ a) (h2 : a < 2147483648) : f_X6_within (iI a) (-9 : Int32) (9 : Int32) = some (if -9 ≤ a ∧ a ≤ 9 then 1 else 0) := by
  have h := c_within (a := a) (b := -9) (c := 9) h1 h2 (by omega) (by omega) (by omega) (by omega)
  rwa [show iI (-9) = (-9 : Int32) from rfl, show iI (9) = (9 : Int32) from rfl] at h
theorem i_m9_9 {a : Int} (h1 : -2147483648 ≤ a) (h2 : a < 2147483648) : f_X7_in (iI a).toInt64 (-9 : Int64) (9 : Int64) = some (if -9 ≤ a ∧ a ≤ 9 then 1 else 0) := by
  have h := m_in (a := a) (b := -9) (c := 9) h1 h2 (by omega) (by omega) (by omega) (by omega)
  rw [iI_L h1 h2]
  rwa [show iL (-9) = (-9 : Int64) from rfl, show iL (9) = (9 : Int64) from rfl] at h
theorem w_32_126 {a : Int} (h1 : -2147483648 ≤ a) (h2 : a < 2147483648) : f_X6_within (iI a) (32 : Int32) (126 : Int32) = some (if 32 ≤ a ∧ a ≤ 126 then 1 else 0) := by
  have h := c_within (a := a) (b := 32) (c := 126) h1 h2 (by omega) (by omega) (by omega) (by omega)
  rwa [show iI (32) = (32 : Int32) from rfl, show iI (126) = (126 : Int32) from rfl] at h
theorem i_32_126 {a : Int} (h1 : -2147483648 ≤ a) (h2 : a < 2147483648) : f_X7_in (iI a).toInt64 (32 : Int64) (126 : Int64) = some (if 32 ≤ a ∧ a ≤ 126 then 1 else 0) := by
  have h := m_in (a := a) (b := 32) (c := 126) h1 h2 (by omega) (by omega) (by omega) (by omega)
  rw [iI_L h1 h2]
  rwa [show iL (32) = (32 : Int64) from rfl, show iL (126) = (126 : Int64) from rfl] at h
theorem w_1_40 {a : Int} (h1 : -2147483648 ≤ a) (h2 : a < 2147483648) : f_X6_within (iI a) (1 : Int32) (40 : Int32) = some (if 1 ≤ a ∧ a ≤ 40 then 1 else 0) := by
  have h := c_within (a := a) (b := 1) (c := 40) h1 h2 (by omega) (by omega) (by omega) (by omega)
  rwa [show iI (1) = (1 : Int32) from rfl, show iI (40) = (40 : Int32) from rfl] at h
theorem i_1_40 {a : Int} (h1 : -2147483648 ≤ a) (h2 : a < 2147483648) : f_X7_in (iI a).toInt64 (1 : Int64) (40 : Int64) = some (if 1 ≤ a ∧ a ≤ 40 then 1 else 0) := by
  have h := m_in (a := a) (b := 1) (c := 40) h1 h2 (by omega) (by omega) (by omega) (by omega)
  rw [iI_L h1 h2]
  rwa [show iL (1) = (1 : Int64) from rfl, show iL (40) = (40 : Int64) from rfl] at h
theorem w_0_40 {a : Int} (h1 : -2147483648 ≤ a) (h2 : a < 2147483648) : f_X6_within (iI a) (0 : Int32) (40 : Int32) = some (if 0 ≤ a ∧ a ≤ 40 then 1 else 0) := by
  have h := c_within (a := a) (b := 0) (c := 40) h1 h2 (by omega) (by omega) (by omega) (by omega)
  rwa [show iI (0) = (0 : Int32) from rfl, show iI (40) = (40 : Int32) from rfl] at h
theorem i_0_40 {a : Int} (h1 : -2147483648 ≤ a) (h2 : a < 2147483648) : f_X7_in (iI a).toInt64 (0 : Int64) (40 : Int64) = some (if 0 ≤ a ∧ a ≤ 40 then 1 else 0) := by
  have h := m_in (a := a) (b := 0) (c := 40) h1 h2 (by omega) (by omega) (by omega) (by omega)
  rw [iI_L h1 h2]
  rwa [show iL (0) = (0 : Int64) from rfl, show iL (40) = (40 : Int64) from rfl] at h
theorem w_0_18 {a : Int} (h1 : -2147483648 ≤ a) (h2 : a < 2147483648) : f_X6_within (iI a) (0 : Int32) (18 : Int32) = some (if 0 ≤ a ∧ a ≤ 18 then 1 else 0) := by
  have h := c_within (a := a) (b := 0) (c := 18) h1 h2 (by omega) (by omega) (by omega) (by omega)
  rwa [show iI (0) = (0 : Int32) from rfl, show iI (18) = (18 : Int32) from rfl] at h
theorem i_0_18 {a : Int} (h1 : -2147483648 ≤ a) (h2 : a < 2147483648) : f_X7_in (iI a).toInt64 (0 : Int64) (18 : Int64) = some (if 0 ≤ a ∧ a ≤ 18 then 1 else 0) := by
  have h := m_in (a := a) (b := 0) (c := 18) h1 h2 (by omega) (by omega) (by omega) (by omega)
  rw [iI_L h1 h2]
  rwa [show iL (0) = (0 : Int64) from rfl, show iL (18) = (18 : Int64) from rfl] at h
theorem w_0_60 {a : Int} (h1 : -2147483648 ≤ a) (h2 : a < 2147483648) : f_X6_within (iI a) (0 : Int32) (60 : Int32) = some (if 0 ≤ a ∧ a ≤ 60 then 1 else 0) := by
  have h := c_within (a := a) (b := 0) (c := 60) h1 h2 (by omega) (by omega) (by omega) (by omega)
  rwa [show iI (0) = (0 : Int32) from rfl, show iI (60) = (60 : Int32) from rfl] at h
theorem i_0_60 {a : Int} (h1 : -2147483648 ≤ a) (h2 : a < 2147483648) : f_X7_in (iI a).toInt64 (0 : Int64) (60 : Int64) = some (if 0 ≤ a ∧ a ≤ 60 then 1 else 0) := by
  have h := m_in (a := a) (b := 0) (c := 60) h1 h2 (by omega) (by omega) (by omega) (by omega)
  rw [iI_L h1 h2]
  rwa [show iL (0) = (0 : Int64) from rfl, show iL (60) = (60 : Int64) from rfl] at h
theorem w_0_1 {a : Int} (h1 : -2147483648 ≤ a) (h2 : a < 2147483648) : f_X6_within (iI a) (0 : Int32) (1 : Int32) = some (if 0 ≤ a ∧ a ≤ 1 then 1 else 0) := by
  have h := c_within (a := a) (b := 0) (c := 1) h1 h2 (by omega) (by omega) (by omega) (by omega)
  rwa [show iI (0) = (0 : Int32) from rfl, show iI (1) = (1 : Int32) from rfl] at h
theorem i_0_1 {a : Int} (h1 : -2147483648 ≤ a) (h2 : a < 2147483648) : f_X7_in (iI a).toInt64 (0 : Int64) (1 : Int64) = some (if 0 ≤ a ∧ a ≤ 1 then 1 else 0) := by
  have h := m_in (a := a) (b := 0) (c := 1) h1 h2 (by omega) (by omega) (by omega) (by omega)
  rw [iI_L h1 h2]
  rwa [show iL (0) = (0 : Int64) from rfl, show iL (1) = (1 : Int64) from rfl] at h
theorem w_1_12 {a : Int} (h1 : -2147483648 ≤ a) (h2 : a < 2147483648) : f_X6_within (iI a) (1 : Int32) (12 : Int32) = some (if 1 ≤ a ∧ a ≤ 12 then 1 else 0) := by
  have h := c_within (a := a) (b := 1) (c := 12) h1 h2 (by omega) (by omega) (by omega) (by omega)
  rwa [show iI (1) = (1 : Int32) from rfl, show iI (12) = (12 : Int32) from rfl] at h
theorem i_1_12 {a : Int} (h1 : -2147483648 ≤ a) (h2 : a < 2147483648) : f_X7_in (iI a).toInt64 (1 : Int64) (12 : Int64) = some (if 1 ≤ a ∧ a ≤ 12 then 1 else 0) := by
  have h := m_in (a := a) (b := 1) (c := 12) h1 h2 (by omega) (by omega) (by omega) (by omega)
  rw [iI_L h1 h2]
  rwa [show iL (1) = (1 : Int64) from rfl, show iL (12) = (12 : Int64) from rfl] at h
theorem w_1_30 {a : Int} (h1 : -2147483648 ≤ a) (h2 : a < 2147483648) : f_X6_within (iI a) (1 : Int32) (30 : Int32) = some (if 1 ≤ a ∧ a ≤ 30 then 1 else 0) := by
  have h := c_within (a := a) (b := 1) (c := 30) h1 h2 (by omega) (by omega) (by omega) (by omega)
  rwa [show iI (1) = (1 : Int32) from rfl, show iI (30) = (30 : Int32) from rfl] at h
theorem i_1_30 {a : Int} (h1 : -2147483648 ≤ a) (h2 : a < 2147483648) : f_X7_in (iI a).toInt64 (1 : Int64) (30 : Int64) = some (if 1 ≤ a ∧ a ≤ 30 then 1 else 0) := by
  have h := m_in (a := a) (b := 1) (c := 30) h1 h2 (by omega) (by omega) (by omega) (by omega)
  rw [iI_L h1 h2]
  rwa [show iL (1) = (1 : Int64) from rfl, show iL (30) = (30 : Int64) from rfl] at h
theorem w_0_2 {a : Int} (h1 : -2147483648 ≤ a) (h2 : a < 2147483648) : f_X6_within (iI a) (0 : Int32) (2 : Int32) = some (if 0 ≤ a ∧ a ≤ 2 then 1 else 0) := by
  have h := c_within (a := a) (b := 0) (c := 2) h1 h2 (by omega) (by omega) (by omega) (by omega)
  rwa [show iI (0) = (0 : Int32) from rfl, show iI (2) = (2 : Int32) from rfl] at h
theorem i_0_2 {a : Int} (h1 : -2147483648 ≤ a) (h2 : a < 2147483648) : f_X7_in (iI a).toInt64 (0 : Int64) (2 : Int64) = some (if 0 ≤ a ∧ a ≤ 2 then 1 else 0) := by
  have h := m_in (a := a) (b := 0) (c := 2) h1 h2 (by omega) (by omega) (by omega) (by omega)
  rw [iI_L h1 h2]
  rwa [show iL (0) = (0 : Int64) from rfl, show iL (2) = (2 : Int64) from rfl] at h
theorem w_1_9 {a : Int} (h1 : -2147483648 ≤ a) (h2 : a < 2147483648) : f_X6_within (iI a) (1 : Int32) (9 : Int32) = some (if 1 ≤ a ∧ a ≤ 9 then 1 else 0) := by
  have h := c_within (a := a) (b := 1) (c := 9) h1 h2 (by omega) (by omega) (by omega) (by omega)
  rwa [show iI (1) = (1 : Int32) from rfl, show iI (9) = (9 : Int32) from rfl] at h
theorem i_1_9 {a : Int} (h1 : -2147483648 ≤ a) (h2 : a < 2147483648) : f_X7_in (iI a).toInt64 (1 : Int64) (9 : Int64) = some (if 1 ≤ a ∧ a ≤ 9 then 1 else 0) := by
  have h := m_in (a := a) (b := 1) (c := 9) h1 h2 (by omega) (by omega) (by omega) (by omega)
  rw [iI_L h1 h2]
  rwa [show iL (1) = (1 : Int64) from rfl, show iL (9) = (9 : Int64) from rfl] at h
theorem w_0_10 {a : Int} (h1 : -2147483648 ≤ a) (h2 : a < 2147483648) : f_X6_within (iI a) (0 : Int32) (10 : Int32) = some (if 0 ≤ a ∧ a ≤ 10 then 1 else 0) := by
  have h := c_within (a := a) (b := 0) (c := 10) h1 h2 (by omega) (by omega) (by omega) (by omega)
  rwa [show iI (0) = (0 : Int32) from rfl, show iI (10) = (10 : Int32) from rfl] at h
theorem i_0_10 {a : Int} (h1 : -2147483648 ≤ a) (h2 : a < 2147483648) : f_X7_in (iI a).toInt64 (0 : Int64) (10 : Int64) = some (if 0 ≤ a ∧ a ≤ 10 then 1 else 0) := by
  have h := m_in (a := a) (b := 0) (c := 10) h1 h2 (by omega) (by omega) (by omega) (by omega)
  rw [iI_L h1 h2]
  rwa [show iL (0) = (0 : Int64) from rfl, show iL (10) = (10 : Int64) from rfl] at h
theorem w_0_3 {a : Int} (h1 : -2147483648 ≤ a) (h2 : a < 2147483648) : f_X6_within (iI a) (0 : Int32) (3 : Int32) = some (if 0 ≤ a ∧ a ≤ 3 then 1 else 0) := by
  have h := c_within (a := a) (b := 0) (c := 3) h1 h2 (by omega) (by omega) (by omega) (by omega)
  rwa [show iI (0) = (0 : Int32) from rfl, show iI (3) = (3 : Int32) from rfl] at h
theorem i_0_3 {a : Int} (h1 : -2147483648 ≤ a) (h2 : a < 2147483648) : f_X7_in (iI a).toInt64 (0 : Int64) (3 : Int64) = some (if 0 ≤ a ∧ a ≤ 3 then 1 else 0) := by
  have h := m_in (a := a) (b := 0) (c := 3) h1 h2 (by omega) (by omega) (by omega) (by omega)
  rw [iI_L h1 h2]
  rwa [show iL (0) = (0 : Int64) from rfl, show iL (3) = (3 : Int64) from rfl] at h
theorem w_1_8 {a : Int} (h1 : -2147483648 ≤ a) (h2 : a < 2147483648) : f_X6_within (iI a) (1 : Int32) (8 : Int32) = some (if 1 ≤ a ∧ a ≤ 8 then 1 else 0) := by
  have h := c_within (a := a) (b := 1) (c := 8) h1 h2 (by omega) (by omega) (by omega) (by omega)
  rwa [show iI (1) = (1 : Int32) from rfl, show iI (8) = (8 : Int32) from rfl] at h
theorem i_1_8 {a : Int} (h1 : -2147483648 ≤ a) (h2 : a < 2147483648) : f_X7_in (iI a).toInt64 (1 : Int64) (8 : Int64) = some (if 1 ≤ a ∧ a ≤ 8 then 1 else 0) := by
  have h := m_in (a := a) (b := 1) (c := 8) h1 h2 (by omega) (by omega) (by omega) (by omega)
  rw [iI_L h1 h2]
  rwa [show iL (1) = (1 : Int64) from rfl, show iL (8) = (8 : Int64) from rfl] at h
theorem w_1_24 {a : Int} (h1 : -2147483648 ≤ a) (h2 : a < 2147483648) : f_X6_within (iI a) (1 : Int32) (24 : Int32) = some (if 1 ≤ a ∧ a ≤ 24 then 1 else 0) := by
  have h := c_within (a := a) (b := 1) (c := 24) h1 h2 (by omega) (by omega) (by omega) (by omega)
  rwa [show iI (1) = (1 : Int32) from rfl, show iI (24) = (24 : Int32) from rfl] at h
theorem i_1_24 {a : Int} (h1 : -2147483648 ≤ a) (h2 : a < 2147483648) : f_X7_in (iI a).toInt64 (1 : Int64) (24 : Int64) = some (if 1 ≤ a ∧ a ≤ 24 then 1 else 0) := by
  have h := m_in (a := a) (b := 1) (c := 24) h1 h2 (by omega) (by omega) (by omega) (by omega)
  rw [iI_L h1 h2]
  rwa [show iL (1) = (1 : Int64) from rfl, show iL (24) = (24 : Int64) from rfl] at h
theorem w_0_59 {a : Int} (h1 : -2147483648 ≤ a) (h2 : a < 2147483648) : f_X6_within (iI a) (0 : Int32) (59 : Int32) = some (if 0 ≤ a ∧ a ≤ 59 then 1 else 0) := by
  have h := c_within (a := a) (b := 0) (c := 59) h1 h2 (by omega) (by omega) (by omega) (by omega)
  rwa [show iI (0) = (0 : Int32) from rfl, show iI (59) = (59 : Int32) from rfl] at h
theorem i_0_59 {a : Int} (h1 : -2147483648 ≤ a) (h2 : a < 2147483648) : f_X7_in (iI a).toInt64 (0 : Int64) (59 : Int64) = some (if 0 ≤ a ∧ a ≤ 59 then 1 else 0) := by
  have h := m_in (a := a) (b := 0) (c := 59) h1 h2 (by omega) (by omega) (by omega) (by omega)
  rw [iI_L h1 h2]
  rwa [show iL (0) = (0 : Int64) from rfl, show iL (59) = (59 : Int64) from rfl] at h
theorem w_0_9 {a : Int} (h1 : -2147483648 ≤ a) (h2 : a < 2147483648) : f_X6_within (iI a) (0 : Int32) (9 : Int32) = some (if 0 ≤ a ∧ a ≤ 9 then 1 else 0) := by
  have h := c_within (a := a) (b := 0) (c := 9) h1 h2 (by omega) (by omega) (by omega) (by omega)
  rwa [show iI (0) = (0 : Int32) from rfl, show iI (9) = (9 : Int32) from rfl] at h
theorem i_0_9 {a : Int} (h1 : -2147483648 ≤ a) (h2 : a < 2147483648) : f_X7_in (iI a).toInt64 (0 : Int64) (9 : Int64) = some (if 0 ≤ a ∧ a ≤ 9 then 1 else 0) := by
  have h := m_in (a := a) (b := 0) (c := 9) h1 h2 (by omega) (by omega) (by omega) (by omega)
  rw [iI_L h1 h2]
  rwa [show iL (0) = (0 : Int64) from rfl, show iL (9) = (9 : Int64) from rfl] at h
theorem w_48_57 {a : Int} (h1 : -2147483648 ≤ a) (h2 : a < 2147483648) : f_X6_within (iI a) (48 : Int32) (57 : Int32) = some (if 48 ≤ a ∧ a ≤ 57 then 1 else 0) := by
  have h := c_within (a := a) (b := 48) (c := 57) h1 h2 (by omega) (by omega) (by omega) (by omega)
  rwa [show iI (48) = (48 : Int32) from rfl, show iI (57) = (57 : Int32) from rfl] at h
theorem i_48_57 {a : Int} (h1 : -2147483648 ≤ a) (h2 : a < 2147483648) : f_X7_in (iI a).toInt64 (48 : Int64) (57 : Int64) = some (if 48 ≤ a ∧ a ≤ 57 then 1 else 0) := by
  have h := m_in (a := a) (b := 48) (c := 57) h1 h2 (by omega) (by omega) (by omega) (by omega)
  rw [iI_L h1 h2]
  rwa [show iL (48) = (48 : Int64) from rfl, show iL (57) = (57 : Int64) from rfl] at h
theorem one0 : ¬ (1 : Int32) = 0 := by decide
