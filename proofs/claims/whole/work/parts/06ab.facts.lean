set_option maxRecDepth 100000 in
theorem pm_mtk0 : ∀ j, j < 22 → pm_mck (pm_me (0 + j)) (pm_MP.getD (0 + j) (0, 0, 0, 0)) = true := by decide +kernel
set_option maxRecDepth 100000 in
theorem pm_mtk1 : ∀ j, j < 22 → pm_mck (pm_me (22 + j)) (pm_MP.getD (22 + j) (0, 0, 0, 0)) = true := by decide +kernel
set_option maxRecDepth 100000 in
theorem pm_mtk2 : ∀ j, j < 22 → pm_mck (pm_me (44 + j)) (pm_MP.getD (44 + j) (0, 0, 0, 0)) = true := by decide +kernel
set_option maxRecDepth 100000 in
theorem pm_mtk3 : ∀ j, j < 22 → pm_mck (pm_me (66 + j)) (pm_MP.getD (66 + j) (0, 0, 0, 0)) = true := by decide +kernel
set_option maxRecDepth 100000 in
theorem pm_mtk4 : ∀ j, j < 22 → pm_mck (pm_me (88 + j)) (pm_MP.getD (88 + j) (0, 0, 0, 0)) = true := by decide +kernel
set_option maxRecDepth 100000 in
theorem pm_mtk5 : ∀ j, j < 22 → pm_mck (pm_me (110 + j)) (pm_MP.getD (110 + j) (0, 0, 0, 0)) = true := by decide +kernel
set_option maxRecDepth 100000 in
theorem pm_mtk6 : ∀ j, j < 22 → pm_mck (pm_me (132 + j)) (pm_MP.getD (132 + j) (0, 0, 0, 0)) = true := by decide +kernel
set_option maxRecDepth 100000 in
theorem pm_mtk7 : ∀ j, j < 22 → pm_mck (pm_me (154 + j)) (pm_MP.getD (154 + j) (0, 0, 0, 0)) = true := by decide +kernel
set_option maxRecDepth 100000 in
theorem pm_mtk8 : ∀ j, j < 22 → pm_mck (pm_me (176 + j)) (pm_MP.getD (176 + j) (0, 0, 0, 0)) = true := by decide +kernel
set_option maxRecDepth 100000 in
theorem pm_mtk9 : ∀ j, j < 22 → pm_mck (pm_me (198 + j)) (pm_MP.getD (198 + j) (0, 0, 0, 0)) = true := by decide +kernel
set_option maxRecDepth 100000 in
theorem pm_mtk10 : ∀ j, j < 22 → pm_mck (pm_me (220 + j)) (pm_MP.getD (220 + j) (0, 0, 0, 0)) = true := by decide +kernel
set_option maxRecDepth 100000 in
theorem pm_mtk11 : ∀ j, j < 22 → pm_mck (pm_me (242 + j)) (pm_MP.getD (242 + j) (0, 0, 0, 0)) = true := by decide +kernel
set_option maxRecDepth 100000 in
theorem pm_mtk12 : ∀ j, j < 22 → pm_mck (pm_me (264 + j)) (pm_MP.getD (264 + j) (0, 0, 0, 0)) = true := by decide +kernel
set_option maxRecDepth 100000 in
theorem pm_mtk13 : ∀ j, j < 22 → pm_mck (pm_me (286 + j)) (pm_MP.getD (286 + j) (0, 0, 0, 0)) = true := by decide +kernel
theorem pm_mt_ok : ∀ m, m < 308 → pm_mck (pm_me m) (pm_MP.getD m (0, 0, 0, 0)) = true := by
  intro m hm
  by_cases h0 : m < 22
  · have := pm_mtk0 (m - 0) (by omega)
    rwa [show 0 + (m - 0) = m by omega] at this
  by_cases h1 : m < 44
  · have := pm_mtk1 (m - 22) (by omega)
    rwa [show 22 + (m - 22) = m by omega] at this
  by_cases h2 : m < 66
  · have := pm_mtk2 (m - 44) (by omega)
    rwa [show 44 + (m - 44) = m by omega] at this
  by_cases h3 : m < 88
  · have := pm_mtk3 (m - 66) (by omega)
    rwa [show 66 + (m - 66) = m by omega] at this
  by_cases h4 : m < 110
  · have := pm_mtk4 (m - 88) (by omega)
    rwa [show 88 + (m - 88) = m by omega] at this
  by_cases h5 : m < 132
  · have := pm_mtk5 (m - 110) (by omega)
    rwa [show 110 + (m - 110) = m by omega] at this
  by_cases h6 : m < 154
  · have := pm_mtk6 (m - 132) (by omega)
    rwa [show 132 + (m - 132) = m by omega] at this
  by_cases h7 : m < 176
  · have := pm_mtk7 (m - 154) (by omega)
    rwa [show 154 + (m - 154) = m by omega] at this
  by_cases h8 : m < 198
  · have := pm_mtk8 (m - 176) (by omega)
    rwa [show 176 + (m - 176) = m by omega] at this
  by_cases h9 : m < 220
  · have := pm_mtk9 (m - 198) (by omega)
    rwa [show 198 + (m - 198) = m by omega] at this
  by_cases h10 : m < 242
  · have := pm_mtk10 (m - 220) (by omega)
    rwa [show 220 + (m - 220) = m by omega] at this
  by_cases h11 : m < 264
  · have := pm_mtk11 (m - 242) (by omega)
    rwa [show 242 + (m - 242) = m by omega] at this
  by_cases h12 : m < 286
  · have := pm_mtk12 (m - 264) (by omega)
    rwa [show 264 + (m - 264) = m by omega] at this
  by_cases h13 : m < 308
  · have := pm_mtk13 (m - 286) (by omega)
    rwa [show 286 + (m - 286) = m by omega] at this
  · omega
